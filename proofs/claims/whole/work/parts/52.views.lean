/-! THE MODEL: views, sinks, copies -/
theorem s_views_same {h : pm_H} {M s : Nat} {v : Nat → Int32} (t : MV h M s v) {n c : Nat} (hn : v 0 = nI n) (hn2 : n ≤ 4) (hc : v 1 = nI c) (hc2 : c < 4) (w g : Int32) (hs : scrV v n w = nI c) (Q : Option Value × pm_H → Prop) : pGo 136 0 [some (.ref M), some (.int w), some (.int g), none, none, none, none, none] [] h Q = Q (none, h) := by
  obtain ⟨t1, t2, t3, t4⟩ := id t
  have c1 : s + 1 < 41160 := by omega
  rw [k136_0]
  simp (disch := omega) only [k136_1, k136_4, k136_5, k136_8, k136_9, k136_10, k136_11, k136_12, k136_13, k136_14, k136_17, k136_19, k136_21, k136_22, k136_25, k136_26, k136_27, k136_30, k136_31, k136_34, k136_36, k136_37, k136_38, k136_39, k136_40, k136_42, k136_44, k136_47, k136_48, k136_51, k136_54, k136_55, k136_58, k136_60, k136_61, k136_63, k136_64, k136_65, k136_66, k136_69, k136_72, k136_75, k136_77, k136_81, k136_84, k136_85, k136_88, k136_89, k136_92, k136_94, k136_95, k136_97, k136_98, k136_99, k136_102, k136_103, k136_106, k136_108, k136_109, k136_111, k136_112, k136_113, k136_114, k136_115, k136_116, k136_119, k136_122, k136_123, k136_126, k136_127, k136_130, k136_132, k136_133, k136_135, k136_136, k136_137, k136_140, k136_141, k136_144, k136_146, k136_147, k136_148, k136_149, k136_150, k136_151, k136_154, k136_155, k136_158, k136_159, k136_162, k136_163, k136_166, k136_168, k136_169, k136_170, k136_171, k136_172, k136_173, k136_174, k136_177, k136_178, k136_181, k136_183, k136_184, k136_186, k136_187, k136_189, k136_190, k136_191, k136_193, k136_195, k136_198, k136_201, k136_202, k136_204, k136_205, k136_208, k136_209, k136_212, k136_213, k136_216, k136_217, k136_218, k136_220, k136_221, s_screenOf t hn hn2, hs, if_true, if_false, ite_true, ite_false, not_true_eq_false, not_false_eq_true, true_or, or_true, false_or, or_false, and_self, ok_n0, ok_ni, ok_nr, ok_nl, va_rf_some, va_rf_none, true_and, and_true, List.length_nil, List.length_cons, Option.toList_some, Option.toList_none, List.cons_append, List.nil_append, rK_uA, rK_uI, rK_uJ, rK_uP, rP_uA, rP_uI, rP_uJ, rJ_uA, rJ_uI, rJ_uP, rI_uJ, rI_uP, rz_uA, rz_uI, rz_uJ, rz_uP, rs_uA, rs_uI, rs_uJ, rs_uP, Nat.reduceAdd, Nat.reduceMul, Nat.reduceSub, Nat.reduceLeDiff, Nat.reduceLT, Nat.reduceEqDiff, Nat.add_zero, Nat.zero_add, Nat.zero_le, t1.1, t1.2.1, t1.2.2.1, t2, ar_add, ar_oki, ar_cl, Nat.add_assoc s, t4, hc, c1]
/-- a hidden workspace brought: it was at p of the hidden ones -/
def vhV (v : Nat → Int32) (c p : Nat) (w : Int32) : Nat → Int32 := upd (topV v 26 p (v (21 + c))) (21 + c) w
theorem s_views_h_a {h : pm_H} {M s : Nat} {v : Nat → Int32} (t : MV h M s v) {p : Nat} (hp : p < 9) (w g a3 a4 a5 : Int32) (hg : v (26 + p) = w) (hq : ∀ q, q < p → ¬ v (26 + q) = w) (Q : Option Value × pm_H → Prop) : ∀ (m k : Nat), k + m = p → pGo 136 50 [some (.ref M), some (.int w), some (.int g), some (.int a3), some (.int a4), some (.int a5), some (.int (nI k)), none] [] h Q = pGo 136 75 [some (.ref M), some (.int w), some (.int g), some (.int a3), some (.int a4), some (.int a5), some (.int (nI p)), none] [] h Q := by
  obtain ⟨t1, t2, t3, t4⟩ := id t
  intro m
  induction m with
  | zero =>
    intro k hk
    have hk : k = p := by omega
    subst hk
    have c2 : s + (26 + k) < 41160 := by omega
    rw [k136_50]
    simp (disch := omega) only [k136_0, k136_1, k136_4, k136_5, k136_8, k136_9, k136_10, k136_11, k136_12, k136_13, k136_14, k136_17, k136_19, k136_21, k136_22, k136_25, k136_26, k136_27, k136_30, k136_31, k136_34, k136_36, k136_37, k136_38, k136_39, k136_40, k136_42, k136_44, k136_47, k136_48, k136_51, k136_54, k136_55, k136_58, k136_60, k136_61, k136_63, k136_64, k136_65, k136_66, k136_69, k136_72, k136_77, k136_79, k136_81, k136_84, k136_85, k136_88, k136_89, k136_92, k136_94, k136_95, k136_97, k136_98, k136_99, k136_102, k136_103, k136_106, k136_108, k136_109, k136_111, k136_112, k136_113, k136_114, k136_115, k136_116, k136_119, k136_122, k136_123, k136_126, k136_127, k136_130, k136_132, k136_133, k136_135, k136_136, k136_137, k136_140, k136_141, k136_144, k136_146, k136_147, k136_148, k136_149, k136_150, k136_151, k136_154, k136_155, k136_158, k136_159, k136_162, k136_163, k136_166, k136_168, k136_169, k136_170, k136_171, k136_172, k136_173, k136_174, k136_177, k136_178, k136_181, k136_183, k136_184, k136_186, k136_187, k136_189, k136_190, k136_191, k136_193, k136_195, k136_198, k136_201, k136_202, k136_204, k136_205, k136_208, k136_209, k136_212, k136_213, k136_216, k136_217, k136_218, k136_220, k136_221, if_true, if_false, ite_true, ite_false, not_true_eq_false, not_false_eq_true, true_or, or_true, false_or, or_false, and_self, ok_n0, ok_ni, ok_nr, ok_nl, va_rf_some, va_rf_none, true_and, and_true, List.length_nil, List.length_cons, Option.toList_some, Option.toList_none, List.cons_append, List.nil_append, rK_uA, rK_uI, rK_uJ, rK_uP, rP_uA, rP_uI, rP_uJ, rJ_uA, rJ_uI, rJ_uP, rI_uJ, rI_uP, rz_uA, rz_uI, rz_uJ, rz_uP, rs_uA, rs_uI, rs_uJ, rs_uP, Nat.reduceAdd, Nat.reduceMul, Nat.reduceSub, Nat.reduceLeDiff, Nat.reduceLT, Nat.reduceEqDiff, Nat.add_zero, Nat.zero_add, Nat.zero_le, t1.1, t1.2.1, t1.2.2.1, t2, ar_add, ar_oki, ar_cl, Nat.add_assoc s, t4, c2, hg]
  | succ m ih =>
    intro k hk
    have c2 : s + (26 + k) < 41160 := by omega
    have c1 := hq k (by omega)
    rw [k136_50]
    simp (disch := omega) only [k136_0, k136_1, k136_4, k136_5, k136_8, k136_9, k136_10, k136_11, k136_12, k136_13, k136_14, k136_17, k136_19, k136_21, k136_22, k136_25, k136_26, k136_27, k136_30, k136_31, k136_34, k136_36, k136_37, k136_38, k136_39, k136_40, k136_42, k136_44, k136_47, k136_48, k136_51, k136_54, k136_55, k136_58, k136_60, k136_61, k136_63, k136_64, k136_65, k136_66, k136_69, k136_72, k136_77, k136_79, k136_81, k136_84, k136_85, k136_88, k136_89, k136_92, k136_94, k136_95, k136_97, k136_98, k136_99, k136_102, k136_103, k136_106, k136_108, k136_109, k136_111, k136_112, k136_113, k136_114, k136_115, k136_116, k136_119, k136_122, k136_123, k136_126, k136_127, k136_130, k136_132, k136_133, k136_135, k136_136, k136_137, k136_140, k136_141, k136_144, k136_146, k136_147, k136_148, k136_149, k136_150, k136_151, k136_154, k136_155, k136_158, k136_159, k136_162, k136_163, k136_166, k136_168, k136_169, k136_170, k136_171, k136_172, k136_173, k136_174, k136_177, k136_178, k136_181, k136_183, k136_184, k136_186, k136_187, k136_189, k136_190, k136_191, k136_193, k136_195, k136_198, k136_201, k136_202, k136_204, k136_205, k136_208, k136_209, k136_212, k136_213, k136_216, k136_217, k136_218, k136_220, k136_221, if_true, if_false, ite_true, ite_false, not_true_eq_false, not_false_eq_true, true_or, or_true, false_or, or_false, and_self, ok_n0, ok_ni, ok_nr, ok_nl, va_rf_some, va_rf_none, true_and, and_true, List.length_nil, List.length_cons, Option.toList_some, Option.toList_none, List.cons_append, List.nil_append, rK_uA, rK_uI, rK_uJ, rK_uP, rP_uA, rP_uI, rP_uJ, rJ_uA, rJ_uI, rJ_uP, rI_uJ, rI_uP, rz_uA, rz_uI, rz_uJ, rz_uP, rs_uA, rs_uI, rs_uJ, rs_uP, Nat.reduceAdd, Nat.reduceMul, Nat.reduceSub, Nat.reduceLeDiff, Nat.reduceLT, Nat.reduceEqDiff, Nat.add_zero, Nat.zero_add, Nat.zero_le, t1.1, t1.2.1, t1.2.2.1, t2, ar_add, ar_oki, ar_cl, Nat.add_assoc s, t4, c2, c1]
    exact ih (k + 1) (by omega)
theorem s_views_h_b {h : pm_H} {M s : Nat} {v F : Nat → Int32} (t : MK h M) (t2 : rI h M 3 = nI s) (ts : s ≤ 40180) {p c : Nat} (hp : p < 9) (hc : c < 4) (w g a4 a5 : Int32) (Q : Option Value × pm_H → Prop) : ∀ (k : Nat), k ≤ p → pGo 136 79 [some (.ref M), some (.int w), some (.int g), some (.int (nI c)), some (.int a4), some (.int a5), some (.int (nI p)), some (.int (nI k))] [] (HM h M F s (va_cpy v v (26 + k) (26 + k + 1) (p - k))) Q = Q (none, HM h M F s (upd (topV v 26 p a5) (21 + c) w)) := by
  intro k
  induction k with
  | zero =>
    intro hk
    have c2 : s + 26 < 41160 := by omega
    have c3 : s + (21 + c) < 41160 := by omega
    rw [k136_79]
    simp (disch := omega) only [k136_0, k136_1, k136_4, k136_5, k136_8, k136_9, k136_10, k136_11, k136_12, k136_13, k136_14, k136_17, k136_19, k136_21, k136_22, k136_25, k136_26, k136_27, k136_30, k136_31, k136_34, k136_36, k136_37, k136_38, k136_39, k136_40, k136_42, k136_44, k136_47, k136_48, k136_51, k136_54, k136_55, k136_58, k136_60, k136_61, k136_63, k136_64, k136_65, k136_66, k136_69, k136_72, k136_75, k136_77, k136_81, k136_84, k136_85, k136_88, k136_89, k136_92, k136_94, k136_95, k136_97, k136_98, k136_99, k136_102, k136_103, k136_106, k136_108, k136_109, k136_111, k136_112, k136_113, k136_114, k136_115, k136_116, k136_119, k136_122, k136_123, k136_126, k136_127, k136_130, k136_132, k136_133, k136_135, k136_136, k136_137, k136_140, k136_141, k136_144, k136_146, k136_147, k136_148, k136_149, k136_150, k136_151, k136_154, k136_155, k136_158, k136_159, k136_162, k136_163, k136_166, k136_168, k136_169, k136_170, k136_171, k136_172, k136_173, k136_174, k136_177, k136_178, k136_181, k136_183, k136_184, k136_186, k136_187, k136_189, k136_190, k136_191, k136_193, k136_195, k136_198, k136_201, k136_202, k136_204, k136_205, k136_208, k136_209, k136_212, k136_213, k136_216, k136_217, k136_218, k136_220, k136_221, if_true, if_false, ite_true, ite_false, not_true_eq_false, not_false_eq_true, true_or, or_true, false_or, or_false, and_self, ok_n0, ok_ni, ok_nr, ok_nl, va_rf_some, va_rf_none, true_and, and_true, List.length_nil, List.length_cons, Option.toList_some, Option.toList_none, List.cons_append, List.nil_append, rK_uA, rK_uI, rK_uJ, rK_uP, rP_uA, rP_uI, rP_uJ, rJ_uA, rJ_uI, rJ_uP, rI_uJ, rI_uP, rz_uA, rz_uI, rz_uJ, rz_uP, rs_uA, rs_uI, rs_uJ, rs_uP, Nat.reduceAdd, Nat.reduceMul, Nat.reduceSub, Nat.reduceLeDiff, Nat.reduceLT, Nat.reduceEqDiff, Nat.add_zero, Nat.zero_add, Nat.zero_le, t.1, t.2.1, t.2.2.1, t2, rK_HM, rP_HM, rI_HM0, ar_le, ar_add, ar_okw, ar_cl, Nat.add_assoc s, c2, c3, uI_HM, topV, Nat.sub_zero]
  | succ k ih =>
    intro hk
    have c1 : ¬ k + 1 ≤ 0 := by omega
    have c2 : s + (26 + (k + 1)) < 41160 := by omega
    have c3 : s + (26 + (k + 1 - 1)) < 41160 := by omega
    have e1 : s + (26 + (k + 1)) - 1 = s + (26 + (k + 1 - 1)) := by omega
    have e2 : k + 1 - 1 = k := by omega
    rw [k136_79]
    simp (disch := omega) only [k136_0, k136_1, k136_4, k136_5, k136_8, k136_9, k136_10, k136_11, k136_12, k136_13, k136_14, k136_17, k136_19, k136_21, k136_22, k136_25, k136_26, k136_27, k136_30, k136_31, k136_34, k136_36, k136_37, k136_38, k136_39, k136_40, k136_42, k136_44, k136_47, k136_48, k136_51, k136_54, k136_55, k136_58, k136_60, k136_61, k136_63, k136_64, k136_65, k136_66, k136_69, k136_72, k136_75, k136_77, k136_81, k136_84, k136_85, k136_88, k136_89, k136_92, k136_94, k136_95, k136_97, k136_98, k136_99, k136_102, k136_103, k136_106, k136_108, k136_109, k136_111, k136_112, k136_113, k136_114, k136_115, k136_116, k136_119, k136_122, k136_123, k136_126, k136_127, k136_130, k136_132, k136_133, k136_135, k136_136, k136_137, k136_140, k136_141, k136_144, k136_146, k136_147, k136_148, k136_149, k136_150, k136_151, k136_154, k136_155, k136_158, k136_159, k136_162, k136_163, k136_166, k136_168, k136_169, k136_170, k136_171, k136_172, k136_173, k136_174, k136_177, k136_178, k136_181, k136_183, k136_184, k136_186, k136_187, k136_189, k136_190, k136_191, k136_193, k136_195, k136_198, k136_201, k136_202, k136_204, k136_205, k136_208, k136_209, k136_212, k136_213, k136_216, k136_217, k136_218, k136_220, k136_221, if_true, if_false, ite_true, ite_false, not_true_eq_false, not_false_eq_true, true_or, or_true, false_or, or_false, and_self, ok_n0, ok_ni, ok_nr, ok_nl, va_rf_some, va_rf_none, true_and, and_true, List.length_nil, List.length_cons, Option.toList_some, Option.toList_none, List.cons_append, List.nil_append, rK_uA, rK_uI, rK_uJ, rK_uP, rP_uA, rP_uI, rP_uJ, rJ_uA, rJ_uI, rJ_uP, rI_uJ, rI_uP, rz_uA, rz_uI, rz_uJ, rz_uP, rs_uA, rs_uI, rs_uJ, rs_uP, Nat.reduceAdd, Nat.reduceMul, Nat.reduceSub, Nat.reduceLeDiff, Nat.reduceLT, Nat.reduceEqDiff, Nat.add_zero, Nat.zero_add, Nat.zero_le, t.1, t.2.1, t.2.2.1, t2, rK_HM, rP_HM, rI_HM0, ar_le, ar_add, ar_sub, ar_m1, ar_oki, ar_okw, ar_cl, Nat.add_assoc s, c1, c2, c3, e1, rI_HM, cpy_rd, uI_HM, cpy_dn]
    rw [e2]
    exact ih (by omega)
theorem s_views_hidden {h : pm_H} {M s : Nat} {v : Nat → Int32} (t : MV h M s v) {n c p : Nat} (hn : v 0 = nI n) (hn2 : n ≤ 4) (hc : v 1 = nI c) (hc2 : c < 4) (w g : Int32) (hs : scrV v n w = -1) (hp : p < 9) (hg : v (26 + p) = w) (hq : ∀ q, q < p → ¬ v (26 + q) = w) (Q : Option Value × pm_H → Prop) : pGo 136 0 [some (.ref M), some (.int w), some (.int g), none, none, none, none, none] [] h Q = Q (none, HM h M (rI h (M + 1)) s (vhV v c p w)) := by
  obtain ⟨t1, t2, t3, t4⟩ := id t
  have c1 : s + 1 < 41160 := by omega
  have c2 : s + (21 + c) < 41160 := by omega
  have e0 := HM_of t4
  rw [k136_0]
  simp (disch := omega) only [k136_1, k136_4, k136_5, k136_8, k136_9, k136_10, k136_11, k136_12, k136_13, k136_14, k136_17, k136_19, k136_21, k136_22, k136_25, k136_26, k136_27, k136_30, k136_31, k136_34, k136_36, k136_37, k136_38, k136_39, k136_40, k136_42, k136_44, k136_47, k136_48, k136_51, k136_54, k136_55, k136_58, k136_60, k136_61, k136_63, k136_64, k136_65, k136_66, k136_69, k136_72, k136_75, k136_77, k136_81, k136_84, k136_85, k136_88, k136_89, k136_92, k136_94, k136_95, k136_97, k136_98, k136_99, k136_102, k136_103, k136_106, k136_108, k136_109, k136_111, k136_112, k136_113, k136_114, k136_115, k136_116, k136_119, k136_122, k136_123, k136_126, k136_127, k136_130, k136_132, k136_133, k136_135, k136_136, k136_137, k136_140, k136_141, k136_144, k136_146, k136_147, k136_148, k136_149, k136_150, k136_151, k136_154, k136_155, k136_158, k136_159, k136_162, k136_163, k136_166, k136_168, k136_169, k136_170, k136_171, k136_172, k136_173, k136_174, k136_177, k136_178, k136_181, k136_183, k136_184, k136_186, k136_187, k136_189, k136_190, k136_191, k136_193, k136_195, k136_198, k136_201, k136_202, k136_204, k136_205, k136_208, k136_209, k136_212, k136_213, k136_216, k136_217, k136_218, k136_220, k136_221, s_screenOf t hn hn2, hs, if_true, if_false, ite_true, ite_false, not_true_eq_false, not_false_eq_true, true_or, or_true, false_or, or_false, and_self, ok_n0, ok_ni, ok_nr, ok_nl, va_rf_some, va_rf_none, true_and, and_true, List.length_nil, List.length_cons, Option.toList_some, Option.toList_none, List.cons_append, List.nil_append, rK_uA, rK_uI, rK_uJ, rK_uP, rP_uA, rP_uI, rP_uJ, rJ_uA, rJ_uI, rJ_uP, rI_uJ, rI_uP, rz_uA, rz_uI, rz_uJ, rz_uP, rs_uA, rs_uI, rs_uJ, rs_uP, Nat.reduceAdd, Nat.reduceMul, Nat.reduceSub, Nat.reduceLeDiff, Nat.reduceLT, Nat.reduceEqDiff, Nat.add_zero, Nat.zero_add, Nat.zero_le, t1.1, t1.2.1, t1.2.2.1, t2, ar_add, ar_oki, ar_cl, ar_mn, ar_nm, Nat.add_assoc s, t4, hc, c1, c2, show ¬ nI 0 ≤ (-1 : Int32) by decide +kernel]
  rw [s_views_h_a t hp w g _ _ _ hg hq Q p 0 (by omega), k136_75]
  simp only [k136_77, if_true, if_false, ite_true, ite_false, not_true_eq_false, not_false_eq_true, true_or, or_true, false_or, or_false, and_self, ok_n0, ok_ni, ok_nr, ok_nl, va_rf_some, va_rf_none, true_and, and_true, List.length_nil, List.length_cons, Option.toList_some, Option.toList_none, List.cons_append, List.nil_append, rK_uA, rK_uI, rK_uJ, rK_uP, rP_uA, rP_uI, rP_uJ, rJ_uA, rJ_uI, rJ_uP, rI_uJ, rI_uP, rz_uA, rz_uI, rz_uJ, rz_uP, rs_uA, rs_uI, rs_uJ, rs_uP, Nat.reduceAdd, Nat.reduceMul, Nat.reduceSub, Nat.reduceLeDiff, Nat.reduceLT, Nat.reduceEqDiff, Nat.add_zero, Nat.zero_add, Nat.zero_le]
  have l := s_views_h_b (h := h) (F := rI h (M + 1)) (v := v) t1 t2 t3 hp hc2 w g (-1) (v (21 + c)) Q p (Nat.le_refl _)
  rw [Nat.sub_self, cpy_0, ← e0] at l
  rw [vhV]
  exact l
def vgV (v : Nat → Int32) (c j p : Nat) (w : Int32) : Nat → Int32 := topV (upd (upd v (21 + c) w) (21 + j) (v (21 + c))) 2 p (nI j)
def vnV (v : Nat → Int32) (c j p : Nat) : Nat → Int32 := upd (topV v 2 p (nI c)) 1 (nI j)
theorem s_views_vis {h : pm_H} {M s : Nat} {v : Nat → Int32} (t : MV h M s v) {n c j p : Nat} (hn : v 0 = nI n) (hn2 : n ≤ 4) (hc : v 1 = nI c) (hc2 : c < 4) (w : Int32) (hs : scrV v n w = nI j) (hj : j < 4) (hjc : ¬ j = c) (hp : p < 3) (hg : v (2 + p) = nI j) (hq : ∀ q, q < p → ¬ v (2 + q) = nI j) (b : Bool) (Q : Option Value × pm_H → Prop) : pGo 136 0 [some (.ref M), some (.int w), some (.int (nb b)), none, none, none, none, none] [] h Q = Q (none, HM h M (rI h (M + 1)) s (if b = true then vgV v c j p w else vnV v c j p)) := by
  obtain ⟨t1, t2, t3, t4⟩ := id t
  have c1 : s + 1 < 41160 := by omega
  have c2 : s + (21 + c) < 41160 := by omega
  have c3 : s + (21 + j) < 41160 := by omega
  have e0 := HM_of t4
  have F1 : ∀ u, HM h M (rI h (M + 1)) s u = HM h M (rI h (M + 1)) s u := fun _ => rfl
  cases b with
  | false =>
    rw [k136_0]
    simp (disch := omega) only [k136_1, k136_4, k136_5, k136_8, k136_9, k136_10, k136_11, k136_12, k136_13, k136_14, k136_17, k136_19, k136_21, k136_22, k136_25, k136_26, k136_27, k136_30, k136_31, k136_34, k136_36, k136_37, k136_38, k136_39, k136_40, k136_42, k136_44, k136_47, k136_48, k136_51, k136_54, k136_55, k136_58, k136_60, k136_61, k136_63, k136_64, k136_65, k136_66, k136_69, k136_72, k136_75, k136_77, k136_81, k136_84, k136_85, k136_88, k136_89, k136_92, k136_94, k136_95, k136_97, k136_98, k136_99, k136_102, k136_103, k136_106, k136_108, k136_109, k136_111, k136_112, k136_113, k136_114, k136_115, k136_116, k136_119, k136_122, k136_123, k136_126, k136_127, k136_130, k136_132, k136_133, k136_135, k136_136, k136_137, k136_140, k136_141, k136_144, k136_146, k136_147, k136_148, k136_149, k136_150, k136_151, k136_154, k136_155, k136_158, k136_159, k136_162, k136_163, k136_166, k136_168, k136_169, k136_170, k136_171, k136_172, k136_173, k136_174, k136_177, k136_178, k136_181, k136_183, k136_184, k136_186, k136_187, k136_189, k136_190, k136_191, k136_193, k136_195, k136_198, k136_201, k136_202, k136_204, k136_205, k136_208, k136_209, k136_212, k136_213, k136_216, k136_217, k136_218, k136_220, k136_221, s_screenOf t hn hn2, s_first t hp (nI j) (nI c) hg hq, hs, nb_f, if_true, if_false, ite_true, ite_false, not_true_eq_false, not_false_eq_true, true_or, or_true, false_or, or_false, and_self, ok_n0, ok_ni, ok_nr, ok_nl, va_rf_some, va_rf_none, true_and, and_true, List.length_nil, List.length_cons, Option.toList_some, Option.toList_none, List.cons_append, List.nil_append, rK_uA, rK_uI, rK_uJ, rK_uP, rP_uA, rP_uI, rP_uJ, rJ_uA, rJ_uI, rJ_uP, rI_uJ, rI_uP, rz_uA, rz_uI, rz_uJ, rz_uP, rs_uA, rs_uI, rs_uJ, rs_uP, Nat.reduceAdd, Nat.reduceMul, Nat.reduceSub, Nat.reduceLeDiff, Nat.reduceLT, Nat.reduceEqDiff, Nat.add_zero, Nat.zero_add, Nat.zero_le, t1.1, t1.2.1, t1.2.2.1, t2, ar_add, ar_oki, ar_okw, ar_cl, ar_eq, ar_le, Nat.add_assoc s, t4, hc, c1, c2, hjc, rK_HM, rP_HM, rI_HM0, uI_HM, vnV, reduceCtorEq]
  | true =>
    have t' := t.HM (rI h (M + 1)) (upd (upd v (21 + c) w) (21 + j) (v (21 + c)))
    have hg' : upd (upd v (21 + c) w) (21 + j) (v (21 + c)) (2 + p) = nI j := by rw [upd_at, if_neg (by omega), upd_at, if_neg (by omega)]; exact hg
    have hq' : ∀ q, q < p → ¬ upd (upd v (21 + c) w) (21 + j) (v (21 + c)) (2 + q) = nI j := by
      intro q hqp
      rw [upd_at, if_neg (by omega), upd_at, if_neg (by omega)]; exact hq q hqp
    have l := s_first t' hp (nI j) (nI j) hg' hq'
    have e9 : rI (HM h M (rI h (M + 1)) s (upd (upd v (21 + c) w) (21 + j) (v (21 + c)))) (M + 1) = lft (rI h (M + 1)) s (upd (upd v (21 + c) w) (21 + j) (v (21 + c))) := by rw [HM, rI_uA, if_pos rfl]
    have e2 : uI h (M + 1) (s + (21 + c)) w = HM h M (rI h (M + 1)) s (upd v (21 + c) w) := by
      have := uI_HM h M (rI h (M + 1)) s v (21 + c) w
      rw [← e0] at this
      exact this
    rw [k136_0]
    simp (disch := omega) only [k136_1, k136_4, k136_5, k136_8, k136_9, k136_10, k136_11, k136_12, k136_13, k136_14, k136_17, k136_19, k136_21, k136_22, k136_25, k136_26, k136_27, k136_30, k136_31, k136_34, k136_36, k136_37, k136_38, k136_39, k136_40, k136_42, k136_44, k136_47, k136_48, k136_51, k136_54, k136_55, k136_58, k136_60, k136_61, k136_63, k136_64, k136_65, k136_66, k136_69, k136_72, k136_75, k136_77, k136_81, k136_84, k136_85, k136_88, k136_89, k136_92, k136_94, k136_95, k136_97, k136_98, k136_99, k136_102, k136_103, k136_106, k136_108, k136_109, k136_111, k136_112, k136_113, k136_114, k136_115, k136_116, k136_119, k136_122, k136_123, k136_126, k136_127, k136_130, k136_132, k136_133, k136_135, k136_136, k136_137, k136_140, k136_141, k136_144, k136_146, k136_147, k136_148, k136_149, k136_150, k136_151, k136_154, k136_155, k136_158, k136_159, k136_162, k136_163, k136_166, k136_168, k136_169, k136_170, k136_171, k136_172, k136_173, k136_174, k136_177, k136_178, k136_181, k136_183, k136_184, k136_186, k136_187, k136_189, k136_190, k136_191, k136_193, k136_195, k136_198, k136_201, k136_202, k136_204, k136_205, k136_208, k136_209, k136_212, k136_213, k136_216, k136_217, k136_218, k136_220, k136_221, s_screenOf t hn hn2, hs, nb_t, if_true, if_false, ite_true, ite_false, not_true_eq_false, not_false_eq_true, true_or, or_true, false_or, or_false, and_self, ok_n0, ok_ni, ok_nr, ok_nl, va_rf_some, va_rf_none, true_and, and_true, List.length_nil, List.length_cons, Option.toList_some, Option.toList_none, List.cons_append, List.nil_append, rK_uA, rK_uI, rK_uJ, rK_uP, rP_uA, rP_uI, rP_uJ, rJ_uA, rJ_uI, rJ_uP, rI_uJ, rI_uP, rz_uA, rz_uI, rz_uJ, rz_uP, rs_uA, rs_uI, rs_uJ, rs_uP, Nat.reduceAdd, Nat.reduceMul, Nat.reduceSub, Nat.reduceLeDiff, Nat.reduceLT, Nat.reduceEqDiff, Nat.add_zero, Nat.zero_add, Nat.zero_le, t1.1, t1.2.1, t1.2.2.1, t2, ar_add, ar_oki, ar_okw, ar_cl, ar_eq, ar_le, Nat.add_assoc s, t4, hc, c1, c2, c3, hjc, e2, rK_HM, rP_HM, rI_HM0, uI_HM, l, e9, HM_HM, vgV]
def snkV (v : Nat → Int32) (w : Nat) : Nat → Int32 := upd (upd (upd (upd (upd v (620 + 6 * w + 1) (nI 0)) (620 + 6 * w + 2) (nI 0)) (620 + 6 * w + 3) (nI 0)) (620 + 6 * w + 4) (nI 0)) (620 + 6 * w + 5) (nI 0)
theorem s_sinks {h : pm_H} {M s : Nat} {v : Nat → Int32} (t : MV h M s v) {w : Nat} (hw : w < 60) (Q : Option Value × pm_H → Prop) : pGo 140 0 [some (.ref M), some (.int (nI w)), none] [] h Q = Q (none, HM h M (rI h (M + 1)) s (snkV v w)) := by
  obtain ⟨t1, t2, t3, t4⟩ := id t
  have e0 := HM_of t4
  have c1 : s + (620 + 6 * w + 1) < 41160 := by omega
  have c2 : s + (620 + 6 * w + 2) < 41160 := by omega
  have c3 : s + (620 + 6 * w + 3) < 41160 := by omega
  have c4 : s + (620 + 6 * w + 4) < 41160 := by omega
  have c5 : s + (620 + 6 * w + 5) < 41160 := by omega
  rw [e0, k140_0]
  have e9 : rI (HM h M (rI h (M + 1)) s v) (M + 1) = rI h (M + 1) := by rw [← e0]
  rw [e9]
  simp only [k140_1, if_true, if_false, ite_true, ite_false, not_true_eq_false, not_false_eq_true, true_or, or_true, false_or, or_false, and_self, ok_n0, ok_ni, ok_nr, ok_nl, va_rf_some, va_rf_none, true_and, and_true, List.length_nil, List.length_cons, Option.toList_some, Option.toList_none, List.cons_append, List.nil_append, rK_uA, rK_uI, rK_uJ, rK_uP, rP_uA, rP_uI, rP_uJ, rJ_uA, rJ_uI, rJ_uP, rI_uJ, rI_uP, rz_uA, rz_uI, rz_uJ, rz_uP, rs_uA, rs_uI, rs_uJ, rs_uP, Nat.reduceAdd, Nat.reduceMul, Nat.reduceSub, Nat.reduceLeDiff, Nat.reduceLT, Nat.reduceEqDiff, Nat.add_zero, Nat.zero_add, Nat.zero_le]
  iterate 6 (rw [k140_2]; simp (disch := omega) only [k140_0, k140_1, k140_3, k140_5, k140_8, k140_9, k140_12, k140_13, k140_14, k140_17, k140_18, k140_19, k140_20, k140_21, k140_24, k140_27, s_seat (t.HM _ _), if_true, if_false, ite_true, ite_false, not_true_eq_false, not_false_eq_true, true_or, or_true, false_or, or_false, and_self, ok_n0, ok_ni, ok_nr, ok_nl, va_rf_some, va_rf_none, true_and, and_true, List.length_nil, List.length_cons, Option.toList_some, Option.toList_none, List.cons_append, List.nil_append, rK_uA, rK_uI, rK_uJ, rK_uP, rP_uA, rP_uI, rP_uJ, rJ_uA, rJ_uI, rJ_uP, rI_uJ, rI_uP, rz_uA, rz_uI, rz_uJ, rz_uP, rs_uA, rs_uI, rs_uJ, rs_uP, Nat.reduceAdd, Nat.reduceMul, Nat.reduceSub, Nat.reduceLeDiff, Nat.reduceLT, Nat.reduceEqDiff, Nat.add_zero, Nat.zero_add, Nat.zero_le, t1.1, t1.2.1, t1.2.2.1, rK_HM, rP_HM, ar_le, ar_add, ar_okw, ar_cl, Nat.add_assoc s, c1, c2, c3, c4, c5, uI_HM, HM_HM])
  simp only [HM_HMF, snkV]
/-- copies of the vector's row -/
theorem s_copy_loop {h : pm_H} {M f g : Nat} {G : Nat → Int32} (t : MK h M) (hf : f + 980 ≤ 41160) (hg : g + 980 ≤ 41160) (hd : f + 980 ≤ g ∨ g + 980 ≤ f) (Q : Option Value × pm_H → Prop) : ∀ (m k : Nat), k + m = 980 → pGo 123 2 [some (.ref M), some (.int (nI f)), some (.int (nI g)), some (.int (nI k))] [] (uA h (M + 1) (va_cpy G G f g k)) Q = Q (none, uA h (M + 1) (va_cpy G G f g 980)) := by
  intro m
  induction m with
  | zero =>
    intro k hk
    have hk : k = 980 := by omega
    subst hk
    rw [k123_2]
    simp (disch := omega) only [k123_0, k123_1, k123_3, k123_6, k123_9, k123_10, k123_13, k123_14, k123_15, k123_16, k123_17, k123_20, k123_21, k123_22, k123_23, k123_24, k123_25, k123_28, k123_31, if_true, if_false, ite_true, ite_false, not_true_eq_false, not_false_eq_true, true_or, or_true, false_or, or_false, and_self, ok_n0, ok_ni, ok_nr, ok_nl, va_rf_some, va_rf_none, true_and, and_true, List.length_nil, List.length_cons, Option.toList_some, Option.toList_none, List.cons_append, List.nil_append, rK_uA, rK_uI, rK_uJ, rK_uP, rP_uA, rP_uI, rP_uJ, rJ_uA, rJ_uI, rJ_uP, rI_uJ, rI_uP, rz_uA, rz_uI, rz_uJ, rz_uP, rs_uA, rs_uI, rs_uJ, rs_uP, Nat.reduceAdd, Nat.reduceMul, Nat.reduceSub, Nat.reduceLeDiff, Nat.reduceLT, Nat.reduceEqDiff, Nat.add_zero, Nat.zero_add, Nat.zero_le, ar_le]
  | succ m ih =>
    intro k hk
    have c1 : ¬ 980 ≤ k := by omega
    have c2 : f + k < 41160 := by omega
    have c3 : g + k < 41160 := by omega
    have e1 : va_cpy G G f g k (f + k) = G (f + k) := cpy_rd G (by omega)
    have e2 : upd (va_cpy G G f g k) (g + k) (G (f + k)) = va_cpy G G f g (k + 1) := by
      funext j
      simp only [va_cpy, upd]
      by_cases hj : j = g + k
      · rw [if_pos hj, if_pos (by omega)]; congr 1; omega
      · rw [if_neg hj]
        by_cases hr : g ≤ j ∧ j < g + k
        · rw [if_pos hr, if_pos (by omega)]
        · rw [if_neg hr, if_neg (by omega)]
    rw [k123_2]
    simp (disch := omega) only [k123_0, k123_1, k123_3, k123_6, k123_9, k123_10, k123_13, k123_14, k123_15, k123_16, k123_17, k123_20, k123_21, k123_22, k123_23, k123_24, k123_25, k123_28, k123_31, if_true, if_false, ite_true, ite_false, not_true_eq_false, not_false_eq_true, true_or, or_true, false_or, or_false, and_self, ok_n0, ok_ni, ok_nr, ok_nl, va_rf_some, va_rf_none, true_and, and_true, List.length_nil, List.length_cons, Option.toList_some, Option.toList_none, List.cons_append, List.nil_append, rK_uA, rK_uI, rK_uJ, rK_uP, rP_uA, rP_uI, rP_uJ, rJ_uA, rJ_uI, rJ_uP, rI_uJ, rI_uP, rz_uA, rz_uI, rz_uJ, rz_uP, rs_uA, rs_uI, rs_uJ, rs_uP, Nat.reduceAdd, Nat.reduceMul, Nat.reduceSub, Nat.reduceLeDiff, Nat.reduceLT, Nat.reduceEqDiff, Nat.add_zero, Nat.zero_add, Nat.zero_le, t.1, t.2.1, t.2.2.1, ar_le, ar_add, ar_oki, ar_okw, ar_cl, c1, c2, c3, rI_uA, uI_uA, e1, e2]
    exact ih (k + 1) (by omega)
theorem s_copy {h : pm_H} {M f g : Nat} (t : MK h M) (hf : f + 980 ≤ 41160) (hg : g + 980 ≤ 41160) (hd : f + 980 ≤ g ∨ g + 980 ≤ f) (Q : Option Value × pm_H → Prop) : pGo 123 0 [some (.ref M), some (.int (nI f)), some (.int (nI g)), none] [] h Q = Q (none, uA h (M + 1) (va_cpy (rI h (M + 1)) (rI h (M + 1)) f g 980)) := by
  have l := s_copy_loop (h := h) (G := rI h (M + 1)) t hf hg hd Q 980 0 (by omega)
  rw [cpy_0, uA_self] at l
  rw [k123_0]
  simp only [k123_1, if_true, if_false, ite_true, ite_false, not_true_eq_false, not_false_eq_true, true_or, or_true, false_or, or_false, and_self, ok_n0, ok_ni, ok_nr, ok_nl, va_rf_some, va_rf_none, true_and, and_true, List.length_nil, List.length_cons, Option.toList_some, Option.toList_none, List.cons_append, List.nil_append, rK_uA, rK_uI, rK_uJ, rK_uP, rP_uA, rP_uI, rP_uJ, rJ_uA, rJ_uI, rJ_uP, rI_uJ, rI_uP, rz_uA, rz_uI, rz_uJ, rz_uP, rs_uA, rs_uI, rs_uJ, rs_uP, Nat.reduceAdd, Nat.reduceMul, Nat.reduceSub, Nat.reduceLeDiff, Nat.reduceLT, Nat.reduceEqDiff, Nat.add_zero, Nat.zero_add, Nat.zero_le]
  exact l
theorem s_begins {h : pm_H} {M : Nat} (t : MK h M) {hd : Nat} (hh : rI h M 1 = nI hd) (hh2 : hd ≤ 40) (Q : Option Value × pm_H → Prop) : pGo 124 0 [some (.ref M)] [] h Q = Q (none, uI (uA h (M + 1) (va_cpy (rI h (M + 1)) (rI h (M + 1)) (980 * hd) 40180 980)) M 3 (nI 40180)) := by
  simp (disch := omega) only [k124_0, k124_1, k124_4, k124_5, k124_8, k124_9, k124_11, k124_14, k124_15, k124_17, k124_20, s_copy t, if_true, if_false, ite_true, ite_false, not_true_eq_false, not_false_eq_true, true_or, or_true, false_or, or_false, and_self, ok_n0, ok_ni, ok_nr, ok_nl, va_rf_some, va_rf_none, true_and, and_true, List.length_nil, List.length_cons, Option.toList_some, Option.toList_none, List.cons_append, List.nil_append, rK_uA, rK_uI, rK_uJ, rK_uP, rP_uA, rP_uI, rP_uJ, rJ_uA, rJ_uI, rJ_uP, rI_uJ, rI_uP, rz_uA, rz_uI, rz_uJ, rz_uP, rs_uA, rs_uI, rs_uJ, rs_uP, Nat.reduceAdd, Nat.reduceMul, Nat.reduceSub, Nat.reduceLeDiff, Nat.reduceLT, Nat.reduceEqDiff, Nat.add_zero, Nat.zero_add, Nat.zero_le, t.1, hh, ar_mul]
/-- are the row at a and the row at b the same, from i on -/
theorem s_ends_cmp {h : pm_H} {M hd : Nat} (t : MK h M) (hs : rI h M 3 = nI (980 * hd)) (hh2 : hd ≤ 40) (Q : Option Value × pm_H → Prop) : ∀ (m k : Nat) (b : Bool), k + m = 980 → pGo 125 16 [some (.ref M), some (.int (nb b)), some (.int (nI k))] [] h Q = pGo 125 62 [some (.ref M), some (.int (nb (b && leq (fun e => rI h (M + 1) (980 * hd + e)) (fun e => rI h (M + 1) (40180 + e)) m k))), some (.int (nI 980))] [] h Q := by
  intro m
  induction m with
  | zero =>
    intro k b hk
    have hk : k = 980 := by omega
    subst hk
    rw [k125_16]
    simp (disch := omega) only [k125_17, k125_20, if_true, if_false, ite_true, ite_false, not_true_eq_false, not_false_eq_true, true_or, or_true, false_or, or_false, and_self, ok_n0, ok_ni, ok_nr, ok_nl, va_rf_some, va_rf_none, true_and, and_true, List.length_nil, List.length_cons, Option.toList_some, Option.toList_none, List.cons_append, List.nil_append, rK_uA, rK_uI, rK_uJ, rK_uP, rP_uA, rP_uI, rP_uJ, rJ_uA, rJ_uI, rJ_uP, rI_uJ, rI_uP, rz_uA, rz_uI, rz_uJ, rz_uP, rs_uA, rs_uI, rs_uJ, rs_uP, Nat.reduceAdd, Nat.reduceMul, Nat.reduceSub, Nat.reduceLeDiff, Nat.reduceLT, Nat.reduceEqDiff, Nat.add_zero, Nat.zero_add, Nat.zero_le, ar_le, leq, Bool.and_true, Nat.le_refl]
  | succ m ih =>
    intro k b hk
    have c1 : ¬ 980 ≤ k := by omega
    have c2 : 980 * hd + k < 41160 := by omega
    have c3 : 40180 + k < 41160 := by omega
    rw [k125_16]
    cases b with
    | false =>
      simp (disch := omega) only [k125_0, k125_1, k125_4, k125_5, k125_8, k125_9, k125_12, k125_13, k125_14, k125_15, k125_17, k125_20, k125_23, k125_24, k125_27, k125_28, k125_31, k125_32, k125_35, k125_36, k125_37, k125_38, k125_39, k125_42, k125_44, k125_45, k125_46, k125_47, k125_50, k125_51, k125_54, k125_55, k125_56, k125_59, k125_63, k125_66, k125_67, k125_68, k125_69, k125_72, k125_74, k125_77, k125_78, k125_80, k125_82, k125_85, k125_86, k125_89, k125_90, k125_91, k125_94, k125_97, k125_98, k125_99, k125_100, k125_101, k125_104, k125_107, k125_110, k125_111, k125_111i, k125_112, k125_115, k125_116, k125_117, k125_120, k125_121, k125_122, k125_125, k125_128, k125_129, k125_132, k125_133, k125_136, k125_137, k125_140, k125_141, k125_143, k125_144, k125_147, k125_150, k125_151, if_true, if_false, ite_true, ite_false, not_true_eq_false, not_false_eq_true, true_or, or_true, false_or, or_false, and_self, ok_n0, ok_ni, ok_nr, ok_nl, va_rf_some, va_rf_none, true_and, and_true, List.length_nil, List.length_cons, Option.toList_some, Option.toList_none, List.cons_append, List.nil_append, rK_uA, rK_uI, rK_uJ, rK_uP, rP_uA, rP_uI, rP_uJ, rJ_uA, rJ_uI, rJ_uP, rI_uJ, rI_uP, rz_uA, rz_uI, rz_uJ, rz_uP, rs_uA, rs_uI, rs_uJ, rs_uP, Nat.reduceAdd, Nat.reduceMul, Nat.reduceSub, Nat.reduceLeDiff, Nat.reduceLT, Nat.reduceEqDiff, Nat.add_zero, Nat.zero_add, Nat.zero_le, ar_le, ar_add, c1, nb_f]
      have := ih (k + 1) false (by omega)
      rw [nb_f] at this
      rw [this]
      simp only [Bool.false_and, nb_f]
    | true =>
      have e : ¬ nI 1 = nI 0 := by decide +kernel
      simp (disch := omega) only [k125_0, k125_1, k125_4, k125_5, k125_8, k125_9, k125_12, k125_13, k125_14, k125_15, k125_17, k125_20, k125_23, k125_24, k125_27, k125_28, k125_31, k125_32, k125_35, k125_36, k125_37, k125_38, k125_39, k125_42, k125_44, k125_45, k125_46, k125_47, k125_50, k125_51, k125_54, k125_55, k125_56, k125_59, k125_63, k125_66, k125_67, k125_68, k125_69, k125_72, k125_74, k125_77, k125_78, k125_80, k125_82, k125_85, k125_86, k125_89, k125_90, k125_91, k125_94, k125_97, k125_98, k125_99, k125_100, k125_101, k125_104, k125_107, k125_110, k125_111, k125_111i, k125_112, k125_115, k125_116, k125_117, k125_120, k125_121, k125_122, k125_125, k125_128, k125_129, k125_132, k125_133, k125_136, k125_137, k125_140, k125_141, k125_143, k125_144, k125_147, k125_150, k125_151, if_true, if_false, ite_true, ite_false, not_true_eq_false, not_false_eq_true, true_or, or_true, false_or, or_false, and_self, ok_n0, ok_ni, ok_nr, ok_nl, va_rf_some, va_rf_none, true_and, and_true, List.length_nil, List.length_cons, Option.toList_some, Option.toList_none, List.cons_append, List.nil_append, rK_uA, rK_uI, rK_uJ, rK_uP, rP_uA, rP_uI, rP_uJ, rJ_uA, rJ_uI, rJ_uP, rI_uJ, rI_uP, rz_uA, rz_uI, rz_uJ, rz_uP, rs_uA, rs_uI, rs_uJ, rs_uP, Nat.reduceAdd, Nat.reduceMul, Nat.reduceSub, Nat.reduceLeDiff, Nat.reduceLT, Nat.reduceEqDiff, Nat.add_zero, Nat.zero_add, Nat.zero_le, t.1, t.2.1, t.2.2.1, hs, ar_le, ar_add, ar_oki, ar_cl, c1, c2, c3, nb_t, e]
      by_cases hx : rI h (M + 1) (980 * hd + k) = rI h (M + 1) (40180 + k)
      · have := ih (k + 1) true (by omega)
        rw [nb_t] at this
        simp only [hx, if_true, if_false, ite_true, ite_false, not_true_eq_false, not_false_eq_true, true_or, or_true, false_or, or_false, and_self, ok_n0, ok_ni, ok_nr, ok_nl, va_rf_some, va_rf_none, true_and, and_true, List.length_nil, List.length_cons, Option.toList_some, Option.toList_none, List.cons_append, List.nil_append, rK_uA, rK_uI, rK_uJ, rK_uP, rP_uA, rP_uI, rP_uJ, rJ_uA, rJ_uI, rJ_uP, rI_uJ, rI_uP, rz_uA, rz_uI, rz_uJ, rz_uP, rs_uA, rs_uI, rs_uJ, rs_uP, Nat.reduceAdd, Nat.reduceMul, Nat.reduceSub, Nat.reduceLeDiff, Nat.reduceLT, Nat.reduceEqDiff, Nat.add_zero, Nat.zero_add, Nat.zero_le, leq, this]
      · have := ih (k + 1) false (by omega)
        rw [nb_f] at this
        simp only [hx, if_true, if_false, ite_true, ite_false, not_true_eq_false, not_false_eq_true, true_or, or_true, false_or, or_false, and_self, ok_n0, ok_ni, ok_nr, ok_nl, va_rf_some, va_rf_none, true_and, and_true, List.length_nil, List.length_cons, Option.toList_some, Option.toList_none, List.cons_append, List.nil_append, rK_uA, rK_uI, rK_uJ, rK_uP, rP_uA, rP_uI, rP_uJ, rJ_uA, rJ_uI, rJ_uP, rI_uJ, rI_uP, rz_uA, rz_uI, rz_uJ, rz_uP, rs_uA, rs_uI, rs_uJ, rs_uP, Nat.reduceAdd, Nat.reduceMul, Nat.reduceSub, Nat.reduceLeDiff, Nat.reduceLT, Nat.reduceEqDiff, Nat.add_zero, Nat.zero_add, Nat.zero_le, leq, this, Bool.false_and, Bool.and_false, nb_f]
theorem s_ends_shift {h : pm_H} {M : Nat} {G : Nat → Int32} (t : MK h M) (a1 : Int32) (Q : Option Value × pm_H → Prop) : ∀ (m k : Nat), k + m = 39200 → pGo 125 79 [some (.ref M), some (.int a1), some (.int (nI k))] [] (uA h (M + 1) (va_cpy G G 980 0 k)) Q = pGo 125 120 [some (.ref M), some (.int a1), some (.int (nI 39200))] [] (uA h (M + 1) (va_cpy G G 980 0 39200)) Q := by
  intro m
  induction m with
  | zero =>
    intro k hk
    have hk : k = 39200 := by omega
    subst hk
    rw [k125_79]
    simp (disch := omega) only [k125_80, k125_82, k125_107, if_true, if_false, ite_true, ite_false, not_true_eq_false, not_false_eq_true, true_or, or_true, false_or, or_false, and_self, ok_n0, ok_ni, ok_nr, ok_nl, va_rf_some, va_rf_none, true_and, and_true, List.length_nil, List.length_cons, Option.toList_some, Option.toList_none, List.cons_append, List.nil_append, rK_uA, rK_uI, rK_uJ, rK_uP, rP_uA, rP_uI, rP_uJ, rJ_uA, rJ_uI, rJ_uP, rI_uJ, rI_uP, rz_uA, rz_uI, rz_uJ, rz_uP, rs_uA, rs_uI, rs_uJ, rs_uP, Nat.reduceAdd, Nat.reduceMul, Nat.reduceSub, Nat.reduceLeDiff, Nat.reduceLT, Nat.reduceEqDiff, Nat.add_zero, Nat.zero_add, Nat.zero_le, ar_le, Nat.le_refl]
  | succ m ih =>
    intro k hk
    have c1 : ¬ 39200 ≤ k := by omega
    have c2 : 980 + k < 41160 := by omega
    have c3 : k < 41160 := by omega
    have e1 : va_cpy G G 980 0 k (980 + k) = G (980 + k) := cpy_rd G (by omega)
    have e2 : upd (va_cpy G G 980 0 k) k (G (980 + k)) = va_cpy G G 980 0 (k + 1) := by
      funext j
      simp only [va_cpy, upd]
      by_cases hj : j = k
      · rw [if_pos hj, if_pos (by omega)]; congr 1; omega
      · rw [if_neg hj]
        by_cases hr : 0 ≤ j ∧ j < 0 + k
        · rw [if_pos hr, if_pos (by omega)]
        · rw [if_neg hr, if_neg (by omega)]
    rw [k125_79]
    simp (disch := omega) only [k125_0, k125_1, k125_4, k125_5, k125_8, k125_9, k125_12, k125_13, k125_14, k125_15, k125_17, k125_20, k125_23, k125_24, k125_27, k125_28, k125_31, k125_32, k125_35, k125_36, k125_37, k125_38, k125_39, k125_42, k125_44, k125_45, k125_46, k125_47, k125_50, k125_51, k125_54, k125_55, k125_56, k125_59, k125_62, k125_63, k125_66, k125_67, k125_68, k125_69, k125_72, k125_74, k125_77, k125_78, k125_80, k125_82, k125_85, k125_86, k125_89, k125_90, k125_91, k125_94, k125_97, k125_98, k125_99, k125_100, k125_101, k125_104, k125_107, k125_110, k125_111, k125_111i, k125_112, k125_115, k125_116, k125_117, k125_121, k125_122, k125_125, k125_128, k125_129, k125_132, k125_133, k125_136, k125_137, k125_140, k125_141, k125_143, k125_144, k125_147, k125_150, k125_151, if_true, if_false, ite_true, ite_false, not_true_eq_false, not_false_eq_true, true_or, or_true, false_or, or_false, and_self, ok_n0, ok_ni, ok_nr, ok_nl, va_rf_some, va_rf_none, true_and, and_true, List.length_nil, List.length_cons, Option.toList_some, Option.toList_none, List.cons_append, List.nil_append, rK_uA, rK_uI, rK_uJ, rK_uP, rP_uA, rP_uI, rP_uJ, rJ_uA, rJ_uI, rJ_uP, rI_uJ, rI_uP, rz_uA, rz_uI, rz_uJ, rz_uP, rs_uA, rs_uI, rs_uJ, rs_uP, Nat.reduceAdd, Nat.reduceMul, Nat.reduceSub, Nat.reduceLeDiff, Nat.reduceLT, Nat.reduceEqDiff, Nat.add_zero, Nat.zero_add, Nat.zero_le, t.1, t.2.1, t.2.2.1, ar_le, ar_add, ar_oki, ar_okw, ar_cl, c1, c2, c3, rI_uA, uI_uA, e1, e2]
    exact ih (k + 1) (by omega)
theorem s_ends_same {h : pm_H} {M hd : Nat} (t : MK h M) (hh : rI h M 1 = nI hd) (hh2 : hd ≤ 40) (hq : leq (fun e => rI h (M + 1) (980 * hd + e)) (fun e => rI h (M + 1) (40180 + e)) 980 0 = true) (Q : Option Value × pm_H → Prop) : pGo 125 0 [some (.ref M), none, none] [] h Q = Q (some (.int (nI 0)), uI h M 3 (nI (980 * hd))) := by
  have d1 : ¬ M + 1 = M := by omega
  have e : ¬ nI 1 = nI 0 := by decide +kernel
  have hs : rI (uI h M 3 (nI (980 * hd))) M 3 = nI (980 * hd) := by rw [rI_uI, if_pos rfl, pk_us]
  have l := s_ends_cmp (h := uI h M 3 (nI (980 * hd))) t hs hh2 Q 980 0 true (by omega)
  rw [nb_t] at l
  have e9 : rI (uI h M 3 (nI (980 * hd))) (M + 1) = rI h (M + 1) := by rw [rI_uI, if_neg d1]
  rw [e9, hq] at l
  rw [k125_0]
  simp (disch := omega) only [k125_1, k125_4, k125_5, k125_8, k125_9, k125_12, k125_13, k125_14, k125_15, if_true, if_false, ite_true, ite_false, not_true_eq_false, not_false_eq_true, true_or, or_true, false_or, or_false, and_self, ok_n0, ok_ni, ok_nr, ok_nl, va_rf_some, va_rf_none, true_and, and_true, List.length_nil, List.length_cons, Option.toList_some, Option.toList_none, List.cons_append, List.nil_append, rK_uA, rK_uI, rK_uJ, rK_uP, rP_uA, rP_uI, rP_uJ, rJ_uA, rJ_uI, rJ_uP, rI_uJ, rI_uP, rz_uA, rz_uI, rz_uJ, rz_uP, rs_uA, rs_uI, rs_uJ, rs_uP, Nat.reduceAdd, Nat.reduceMul, Nat.reduceSub, Nat.reduceLeDiff, Nat.reduceLT, Nat.reduceEqDiff, Nat.add_zero, Nat.zero_add, Nat.zero_le, t.1, hh, ar_mul]
  rw [l, k125_62]
  simp only [k125_63, k125_66, k125_67, if_true, if_false, ite_true, ite_false, not_true_eq_false, not_false_eq_true, true_or, or_true, false_or, or_false, and_self, ok_n0, ok_ni, ok_nr, ok_nl, va_rf_some, va_rf_none, true_and, and_true, List.length_nil, List.length_cons, Option.toList_some, Option.toList_none, List.cons_append, List.nil_append, rK_uA, rK_uI, rK_uJ, rK_uP, rP_uA, rP_uI, rP_uJ, rJ_uA, rJ_uI, rJ_uP, rI_uJ, rI_uP, rz_uA, rz_uI, rz_uJ, rz_uP, rs_uA, rs_uI, rs_uJ, rs_uP, Nat.reduceAdd, Nat.reduceMul, Nat.reduceSub, Nat.reduceLeDiff, Nat.reduceLT, Nat.reduceEqDiff, Nat.add_zero, Nat.zero_add, Nat.zero_le, Bool.and_self, nb_t, e]
theorem s_ends_new {h : pm_H} {M hd : Nat} (t : MK h M) (hh : rI h M 1 = nI hd) (hh2 : hd < 40) (hq : leq (fun e => rI h (M + 1) (980 * hd + e)) (fun e => rI h (M + 1) (40180 + e)) 980 0 = false) (Q : Option Value × pm_H → Prop) : pGo 125 0 [some (.ref M), none, none] [] h Q = Q (some (.int (nI 1)), uA (uI (uI (uI (uI h M 3 (nI (980 * hd))) M 1 (nI (hd + 1))) M 2 (nI (hd + 1))) M 3 (nI (980 * (hd + 1)))) (M + 1) (va_cpy (rI h (M + 1)) (rI h (M + 1)) 40180 (980 * (hd + 1)) 980)) := by
  have d1 : ¬ M + 1 = M := by omega
  have e : ¬ nI 1 = nI 0 := by decide +kernel
  have hs : rI (uI h M 3 (nI (980 * hd))) M 3 = nI (980 * hd) := by rw [rI_uI, if_pos rfl, pk_us]
  have l := s_ends_cmp (h := uI h M 3 (nI (980 * hd))) t hs (by omega) Q 980 0 true (by omega)
  rw [nb_t] at l
  have e9 : rI (uI h M 3 (nI (980 * hd))) (M + 1) = rI h (M + 1) := by rw [rI_uI, if_neg d1]
  rw [e9, hq] at l
  have c1 : ¬ hd = 40 := by omega
  rw [k125_0]
  simp (disch := omega) only [k125_1, k125_4, k125_5, k125_8, k125_9, k125_12, k125_13, k125_14, k125_15, if_true, if_false, ite_true, ite_false, not_true_eq_false, not_false_eq_true, true_or, or_true, false_or, or_false, and_self, ok_n0, ok_ni, ok_nr, ok_nl, va_rf_some, va_rf_none, true_and, and_true, List.length_nil, List.length_cons, Option.toList_some, Option.toList_none, List.cons_append, List.nil_append, rK_uA, rK_uI, rK_uJ, rK_uP, rP_uA, rP_uI, rP_uJ, rJ_uA, rJ_uI, rJ_uP, rI_uJ, rI_uP, rz_uA, rz_uI, rz_uJ, rz_uP, rs_uA, rs_uI, rs_uJ, rs_uP, Nat.reduceAdd, Nat.reduceMul, Nat.reduceSub, Nat.reduceLeDiff, Nat.reduceLT, Nat.reduceEqDiff, Nat.add_zero, Nat.zero_add, Nat.zero_le, t.1, hh, ar_mul]
  rw [l, k125_62]
  have t' : ∀ x y z : Int32, MK (uI (uI (uI (uI h M 3 (nI (980 * hd))) M 1 x) M 2 y) M 3 z) M := fun _ _ _ => t
  simp (disch := omega) only [k125_0, k125_1, k125_4, k125_5, k125_8, k125_9, k125_12, k125_13, k125_14, k125_15, k125_17, k125_20, k125_23, k125_24, k125_27, k125_28, k125_31, k125_32, k125_35, k125_36, k125_37, k125_38, k125_39, k125_42, k125_44, k125_45, k125_46, k125_47, k125_50, k125_51, k125_54, k125_55, k125_56, k125_59, k125_63, k125_66, k125_67, k125_68, k125_69, k125_72, k125_74, k125_77, k125_78, k125_80, k125_82, k125_85, k125_86, k125_89, k125_90, k125_91, k125_94, k125_97, k125_98, k125_99, k125_100, k125_101, k125_104, k125_107, k125_110, k125_111, k125_111i, k125_112, k125_115, k125_116, k125_117, k125_120, k125_121, k125_122, k125_125, k125_128, k125_129, k125_132, k125_133, k125_136, k125_137, k125_140, k125_141, k125_143, k125_144, k125_147, k125_150, k125_151, s_copy (t' _ _ _), if_true, if_false, ite_true, ite_false, not_true_eq_false, not_false_eq_true, true_or, or_true, false_or, or_false, and_self, ok_n0, ok_ni, ok_nr, ok_nl, va_rf_some, va_rf_none, true_and, and_true, List.length_nil, List.length_cons, Option.toList_some, Option.toList_none, List.cons_append, List.nil_append, rK_uA, rK_uI, rK_uJ, rK_uP, rP_uA, rP_uI, rP_uJ, rJ_uA, rJ_uI, rJ_uP, rI_uJ, rI_uP, rz_uA, rz_uI, rz_uJ, rz_uP, rs_uA, rs_uI, rs_uJ, rs_uP, Nat.reduceAdd, Nat.reduceMul, Nat.reduceSub, Nat.reduceLeDiff, Nat.reduceLT, Nat.reduceEqDiff, Nat.add_zero, Nat.zero_add, Nat.zero_le, Bool.and_false, nb_f, t.1, hh, rI_uI, upd_at, ar_eq, ar_add, ar_mul, c1, d1]
theorem s_ends_full {h : pm_H} {M : Nat} (t : MK h M) (hh : rI h M 1 = nI 40) (hq : leq (fun e => rI h (M + 1) (980 * 40 + e)) (fun e => rI h (M + 1) (40180 + e)) 980 0 = false) (Q : Option Value × pm_H → Prop) : pGo 125 0 [some (.ref M), none, none] [] h Q = Q (some (.int (nI 1)), uA (uI (uI (uI h M 3 (nI (980 * 40))) M 2 (nI 40)) M 3 (nI (980 * 40))) (M + 1) (va_cpy (va_cpy (rI h (M + 1)) (rI h (M + 1)) 980 0 39200) (va_cpy (rI h (M + 1)) (rI h (M + 1)) 980 0 39200) 40180 (980 * 40) 980)) := by
  have d1 : ¬ M + 1 = M := by omega
  have d2 : ¬ M = M + 1 := by omega
  have hs : rI (uI h M 3 (nI (980 * 40))) M 3 = nI (980 * 40) := by rw [rI_uI, if_pos rfl, pk_us]
  have l := s_ends_cmp (hd := 40) (h := uI h M 3 (nI (980 * 40))) t hs (by omega) Q 980 0 true (by omega)
  rw [nb_t] at l
  have e9 : rI (uI h M 3 (nI (980 * 40))) (M + 1) = rI h (M + 1) := by rw [rI_uI, if_neg d1]
  rw [e9, hq] at l
  have l2 := s_ends_shift (h := uI h M 3 (nI (980 * 40))) (G := rI h (M + 1)) t (nI 0) Q 39200 0 (by omega)
  rw [cpy_0, ← e9, uA_self, e9] at l2
  rw [k125_0]
  simp (disch := omega) only [k125_1, k125_4, k125_5, k125_8, k125_9, k125_12, k125_13, k125_14, k125_15, if_true, if_false, ite_true, ite_false, not_true_eq_false, not_false_eq_true, true_or, or_true, false_or, or_false, and_self, ok_n0, ok_ni, ok_nr, ok_nl, va_rf_some, va_rf_none, true_and, and_true, List.length_nil, List.length_cons, Option.toList_some, Option.toList_none, List.cons_append, List.nil_append, rK_uA, rK_uI, rK_uJ, rK_uP, rP_uA, rP_uI, rP_uJ, rJ_uA, rJ_uI, rJ_uP, rI_uJ, rI_uP, rz_uA, rz_uI, rz_uJ, rz_uP, rs_uA, rs_uI, rs_uJ, rs_uP, Nat.reduceAdd, Nat.reduceMul, Nat.reduceSub, Nat.reduceLeDiff, Nat.reduceLT, Nat.reduceEqDiff, Nat.add_zero, Nat.zero_add, Nat.zero_le, t.1, hh, ar_mul] at l l2 ⊢
  rw [l, k125_62]
  simp (disch := omega) only [k125_63, k125_68, k125_69, k125_72, k125_74, k125_77, k125_78, if_true, if_false, ite_true, ite_false, not_true_eq_false, not_false_eq_true, true_or, or_true, false_or, or_false, and_self, ok_n0, ok_ni, ok_nr, ok_nl, va_rf_some, va_rf_none, true_and, and_true, List.length_nil, List.length_cons, Option.toList_some, Option.toList_none, List.cons_append, List.nil_append, rK_uA, rK_uI, rK_uJ, rK_uP, rP_uA, rP_uI, rP_uJ, rJ_uA, rJ_uI, rJ_uP, rI_uJ, rI_uP, rz_uA, rz_uI, rz_uJ, rz_uP, rs_uA, rs_uI, rs_uJ, rs_uP, Nat.reduceAdd, Nat.reduceMul, Nat.reduceSub, Nat.reduceLeDiff, Nat.reduceLT, Nat.reduceEqDiff, Nat.add_zero, Nat.zero_add, Nat.zero_le, Bool.and_false, nb_f, t.1, hh, rI_uI, upd_at]
  rw [l2, k125_120]
  have t' : ∀ (x y z : Int32) (f : Nat → Int32), MK (uI (uI (uA (uI h M 3 x) (M + 1) f) M 2 y) M 3 z) M := fun _ _ _ _ => t
  simp (disch := omega) only [k125_0, k125_1, k125_4, k125_5, k125_8, k125_9, k125_12, k125_13, k125_14, k125_15, k125_17, k125_20, k125_23, k125_24, k125_27, k125_28, k125_31, k125_32, k125_35, k125_36, k125_37, k125_38, k125_39, k125_42, k125_44, k125_45, k125_46, k125_47, k125_50, k125_51, k125_54, k125_55, k125_56, k125_59, k125_63, k125_66, k125_67, k125_68, k125_69, k125_72, k125_74, k125_77, k125_78, k125_80, k125_82, k125_85, k125_86, k125_89, k125_90, k125_91, k125_94, k125_97, k125_98, k125_99, k125_100, k125_101, k125_104, k125_107, k125_110, k125_111, k125_111i, k125_112, k125_115, k125_116, k125_117, k125_121, k125_122, k125_125, k125_128, k125_129, k125_132, k125_133, k125_136, k125_137, k125_140, k125_141, k125_143, k125_144, k125_147, k125_150, k125_151, s_copy (t' _ _ _ _), if_true, if_false, ite_true, ite_false, not_true_eq_false, not_false_eq_true, true_or, or_true, false_or, or_false, and_self, ok_n0, ok_ni, ok_nr, ok_nl, va_rf_some, va_rf_none, true_and, and_true, List.length_nil, List.length_cons, Option.toList_some, Option.toList_none, List.cons_append, List.nil_append, rK_uA, rK_uI, rK_uJ, rK_uP, rP_uA, rP_uI, rP_uJ, rJ_uA, rJ_uI, rJ_uP, rI_uJ, rI_uP, rz_uA, rz_uI, rz_uJ, rz_uP, rs_uA, rs_uI, rs_uJ, rs_uP, Nat.reduceAdd, Nat.reduceMul, Nat.reduceSub, Nat.reduceLeDiff, Nat.reduceLT, Nat.reduceEqDiff, Nat.add_zero, Nat.zero_add, Nat.zero_le, t.1, hh, rI_uI, rI_uA, upd_at, ar_mul, d1, d2]
  simp only [uA_uI_comm d2, uA_uA]
