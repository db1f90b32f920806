/-! THE LAW -/
section LAW
variable {h : pm_H} {X hd un wt d B F b n i : Nat} {V : Nat → Nat → Int32} {W : Nat → Int32} {Sl : Nat → Option Nat} {Q : Option Value × pm_H → Prop}
theorem c_0 (R : XR h X hd un V wt W d B F Sl) (N : MR h (X + 115) hd un V wt W) (hb : b < X) (kb : rK h b = (3, n)) (hi : i + 6 ≤ n) (hn : n ≤ 3072) (nx : ∀ h2, RELS h2 X → STP X h h2 → pGo 185 870 [some (.ref b), some (.ref X), some (.ref (X + 115)), some (.int (nI i))] [] h2 Q) : pGo 185 148 [some (.ref b), some (.ref X), some (.ref (X + 115)), some (.int (nI i))] [] h Q := by
  have kX := R.xk.1
  have kM := N.k.1
  obtain ⟨x, h1, h2, e1, e2, r2, st, sq, km⟩ := e_open R N 
  have s1 := sq b hb
  rw [k185_148]
  simp (disch := omega) only [k185_149, k185_152, k185_153, k185_156, k185_159, k185_160, e1, e2, if_true, if_false, ite_true, ite_false, not_true_eq_false, not_false_eq_true, true_or, or_true, false_or, or_false, and_self, ok_n0, ok_ni, ok_nr, ok_nl, va_rf_some, va_rf_none, true_and, and_true, List.length_nil, List.length_cons, Option.toList_some, Option.toList_none, List.cons_append, List.nil_append, rK_uA, rK_uI, rK_uJ, rK_uP, rP_uA, rP_uI, rP_uJ, rJ_uA, rJ_uI, rJ_uP, rI_uJ, rI_uP, rz_uA, rz_uI, rz_uJ, rz_uP, rs_uA, rs_uI, rs_uJ, rs_uP, Nat.reduceAdd, Nat.reduceMul, Nat.reduceSub, Nat.reduceLeDiff, Nat.reduceLT, Nat.reduceEqDiff, Nat.add_zero, Nat.zero_add, Nat.zero_le, kX, kM, km, kb, s1.1, s1.2.1, ar_add, ar_oki, ar_cl]
  exact nx h2 r2 st
theorem c_1 (R : XR h X hd un V wt W d B F Sl) (N : MR h (X + 115) hd un V wt W) (hb : b < X) (kb : rK h b = (3, n)) (hi : i + 6 ≤ n) (hn : n ≤ 3072) (nx : ∀ h2, RELS h2 X → STP X h h2 → pGo 185 870 [some (.ref b), some (.ref X), some (.ref (X + 115)), some (.int (nI i))] [] h2 Q) : pGo 185 161 [some (.ref b), some (.ref X), some (.ref (X + 115)), some (.int (nI i))] [] h Q := by
  have kX := R.xk.1
  have kM := N.k.1
  have c1 : i + 1 < n := by omega
  obtain ⟨x, h1, h2, e1, e2, r2, st, sq, km⟩ := e_close R N (rI h b (i + 1))
  have s1 := sq b hb
  rw [k185_161]
  simp (disch := omega) only [k185_162, k185_163, k185_164, k185_165, k185_166, k185_167, k185_170, k185_171, k185_172, k185_173, k185_174, k185_175, k185_176, k185_179, k185_182, k185_183, e1, e2, if_true, if_false, ite_true, ite_false, not_true_eq_false, not_false_eq_true, true_or, or_true, false_or, or_false, and_self, ok_n0, ok_ni, ok_nr, ok_nl, va_rf_some, va_rf_none, true_and, and_true, List.length_nil, List.length_cons, Option.toList_some, Option.toList_none, List.cons_append, List.nil_append, rK_uA, rK_uI, rK_uJ, rK_uP, rP_uA, rP_uI, rP_uJ, rJ_uA, rJ_uI, rJ_uP, rI_uJ, rI_uP, rz_uA, rz_uI, rz_uJ, rz_uP, rs_uA, rs_uI, rs_uJ, rs_uP, Nat.reduceAdd, Nat.reduceMul, Nat.reduceSub, Nat.reduceLeDiff, Nat.reduceLT, Nat.reduceEqDiff, Nat.add_zero, Nat.zero_add, Nat.zero_le, kX, kM, km, kb, s1.1, s1.2.1, ar_add, ar_oki, ar_cl, c1]
  exact nx h2 r2 st
theorem c_2 (R : XR h X hd un V wt W d B F Sl) (N : MR h (X + 115) hd un V wt W) (hb : b < X) (kb : rK h b = (3, n)) (hi : i + 6 ≤ n) (hn : n ≤ 3072) (nx : ∀ h2, RELS h2 X → STP X h h2 → pGo 185 870 [some (.ref b), some (.ref X), some (.ref (X + 115)), some (.int (nI i))] [] h2 Q) : pGo 185 184 [some (.ref b), some (.ref X), some (.ref (X + 115)), some (.int (nI i))] [] h Q := by
  have kX := R.xk.1
  have kM := N.k.1
  have c1 : i + 1 < n := by omega
  obtain ⟨x, h1, h2, e1, e2, r2, st, sq, km⟩ := e_move R N (rI h b (i + 1))
  have s1 := sq b hb
  rw [k185_184]
  simp (disch := omega) only [k185_185, k185_186, k185_187, k185_188, k185_189, k185_190, k185_193, k185_194, k185_195, k185_196, k185_197, k185_198, k185_199, k185_202, k185_205, k185_206, e1, e2, if_true, if_false, ite_true, ite_false, not_true_eq_false, not_false_eq_true, true_or, or_true, false_or, or_false, and_self, ok_n0, ok_ni, ok_nr, ok_nl, va_rf_some, va_rf_none, true_and, and_true, List.length_nil, List.length_cons, Option.toList_some, Option.toList_none, List.cons_append, List.nil_append, rK_uA, rK_uI, rK_uJ, rK_uP, rP_uA, rP_uI, rP_uJ, rJ_uA, rJ_uI, rJ_uP, rI_uJ, rI_uP, rz_uA, rz_uI, rz_uJ, rz_uP, rs_uA, rs_uI, rs_uJ, rs_uP, Nat.reduceAdd, Nat.reduceMul, Nat.reduceSub, Nat.reduceLeDiff, Nat.reduceLT, Nat.reduceEqDiff, Nat.add_zero, Nat.zero_add, Nat.zero_le, kX, kM, km, kb, s1.1, s1.2.1, ar_add, ar_oki, ar_cl, c1]
  exact nx h2 r2 st
theorem c_3 (R : XR h X hd un V wt W d B F Sl) (N : MR h (X + 115) hd un V wt W) (hb : b < X) (kb : rK h b = (3, n)) (hi : i + 6 ≤ n) (hn : n ≤ 3072) (nx : ∀ h2, RELS h2 X → STP X h h2 → pGo 185 870 [some (.ref b), some (.ref X), some (.ref (X + 115)), some (.int (nI i))] [] h2 Q) : pGo 185 207 [some (.ref b), some (.ref X), some (.ref (X + 115)), some (.int (nI i))] [] h Q := by
  have kX := R.xk.1
  have kM := N.k.1
  have c1 : i + 1 < n := by omega
  have c2 : i + 2 < n := by omega
  by_cases z : rI h b (i + 2) = nI 0
  · obtain ⟨x, h1, h2, e1, e2, r2, st, sq, km⟩ := e_view R N (rI h b (i + 1)) false
    have s1 := sq b hb
    rw [nb_f] at e1 e2
    rw [k185_207]
    simp (disch := omega) only [k185_208, k185_209, k185_210, k185_211, k185_212, k185_213, k185_214, k185_215, k185_216, k185_217, k185_218, k185_221, k185_222, k185_225, k185_226, k185_229, k185_230, k185_231, k185_232, k185_233, k185_234, k185_235, k185_236, k185_237, k185_238, k185_239, k185_240, k185_243, k185_244, k185_247, k185_248, k185_251, k185_254, k185_255, e1, e2, if_true, if_false, ite_true, ite_false, not_true_eq_false, not_false_eq_true, true_or, or_true, false_or, or_false, and_self, ok_n0, ok_ni, ok_nr, ok_nl, va_rf_some, va_rf_none, true_and, and_true, List.length_nil, List.length_cons, Option.toList_some, Option.toList_none, List.cons_append, List.nil_append, rK_uA, rK_uI, rK_uJ, rK_uP, rP_uA, rP_uI, rP_uJ, rJ_uA, rJ_uI, rJ_uP, rI_uJ, rI_uP, rz_uA, rz_uI, rz_uJ, rz_uP, rs_uA, rs_uI, rs_uJ, rs_uP, Nat.reduceAdd, Nat.reduceMul, Nat.reduceSub, Nat.reduceLeDiff, Nat.reduceLT, Nat.reduceEqDiff, Nat.add_zero, Nat.zero_add, Nat.zero_le, kX, kM, km, kb, s1.1, s1.2.1, ar_add, ar_oki, ar_cl, z, c1, c2]
    exact nx h2 r2 st
  · obtain ⟨x, h1, h2, e1, e2, r2, st, sq, km⟩ := e_view R N (rI h b (i + 1)) true
    have s1 := sq b hb
    rw [nb_t] at e1 e2
    rw [k185_207]
    simp (disch := omega) only [k185_208, k185_209, k185_210, k185_211, k185_212, k185_213, k185_214, k185_215, k185_216, k185_217, k185_218, k185_221, k185_222, k185_225, k185_226, k185_229, k185_230, k185_231, k185_232, k185_233, k185_234, k185_235, k185_236, k185_237, k185_238, k185_239, k185_240, k185_243, k185_244, k185_247, k185_248, k185_251, k185_254, k185_255, e1, e2, if_true, if_false, ite_true, ite_false, not_true_eq_false, not_false_eq_true, true_or, or_true, false_or, or_false, and_self, ok_n0, ok_ni, ok_nr, ok_nl, va_rf_some, va_rf_none, true_and, and_true, List.length_nil, List.length_cons, Option.toList_some, Option.toList_none, List.cons_append, List.nil_append, rK_uA, rK_uI, rK_uJ, rK_uP, rP_uA, rP_uI, rP_uJ, rJ_uA, rJ_uI, rJ_uP, rI_uJ, rI_uP, rz_uA, rz_uI, rz_uJ, rz_uP, rs_uA, rs_uI, rs_uJ, rs_uP, Nat.reduceAdd, Nat.reduceMul, Nat.reduceSub, Nat.reduceLeDiff, Nat.reduceLT, Nat.reduceEqDiff, Nat.add_zero, Nat.zero_add, Nat.zero_le, kX, kM, km, kb, s1.1, s1.2.1, ar_add, ar_oki, ar_cl, z, c1, c2]
    exact nx h2 r2 st
theorem c_4 (R : XR h X hd un V wt W d B F Sl) (N : MR h (X + 115) hd un V wt W) (hb : b < X) (kb : rK h b = (3, n)) (hi : i + 6 ≤ n) (hn : n ≤ 3072) (nx : ∀ h2, RELS h2 X → STP X h h2 → pGo 185 870 [some (.ref b), some (.ref X), some (.ref (X + 115)), some (.int (nI i))] [] h2 Q) : pGo 185 256 [some (.ref b), some (.ref X), some (.ref (X + 115)), some (.int (nI i))] [] h Q := by
  have kX := R.xk.1
  have kM := N.k.1
  have c1 : i + 1 < n := by omega
  obtain ⟨x, h1, h2, e1, e2, r2, st, sq, km⟩ := e_shift R N (rI h b (i + 1))
  have s1 := sq b hb
  rw [k185_256]
  simp (disch := omega) only [k185_257, k185_258, k185_259, k185_260, k185_261, k185_262, k185_265, k185_266, k185_267, k185_268, k185_269, k185_270, k185_271, k185_274, k185_277, k185_278, e1, e2, if_true, if_false, ite_true, ite_false, not_true_eq_false, not_false_eq_true, true_or, or_true, false_or, or_false, and_self, ok_n0, ok_ni, ok_nr, ok_nl, va_rf_some, va_rf_none, true_and, and_true, List.length_nil, List.length_cons, Option.toList_some, Option.toList_none, List.cons_append, List.nil_append, rK_uA, rK_uI, rK_uJ, rK_uP, rP_uA, rP_uI, rP_uJ, rJ_uA, rJ_uI, rJ_uP, rI_uJ, rI_uP, rz_uA, rz_uI, rz_uJ, rz_uP, rs_uA, rs_uI, rs_uJ, rs_uP, Nat.reduceAdd, Nat.reduceMul, Nat.reduceSub, Nat.reduceLeDiff, Nat.reduceLT, Nat.reduceEqDiff, Nat.add_zero, Nat.zero_add, Nat.zero_le, kX, kM, km, kb, s1.1, s1.2.1, ar_add, ar_oki, ar_cl, c1]
  exact nx h2 r2 st
theorem c_5 (R : XR h X hd un V wt W d B F Sl) (N : MR h (X + 115) hd un V wt W) (hb : b < X) (kb : rK h b = (3, n)) (hi : i + 6 ≤ n) (hn : n ≤ 3072) (nx : ∀ h2, RELS h2 X → STP X h h2 → pGo 185 870 [some (.ref b), some (.ref X), some (.ref (X + 115)), some (.int (nI i))] [] h2 Q) : pGo 185 279 [some (.ref b), some (.ref X), some (.ref (X + 115)), some (.int (nI i))] [] h Q := by
  have kX := R.xk.1
  have kM := N.k.1
  have c1 : i + 1 < n := by omega
  have c2 : i + 2 < n := by omega
  obtain ⟨x, h1, h2, e1, e2, r2, st, sq, km⟩ := e_send R N (rI h b (i + 1)) (rI h b (i + 2))
  have s1 := sq b hb
  rw [k185_279]
  simp (disch := omega) only [k185_280, k185_281, k185_282, k185_283, k185_284, k185_285, k185_286, k185_287, k185_288, k185_289, k185_290, k185_293, k185_294, k185_295, k185_296, k185_297, k185_298, k185_299, k185_300, k185_301, k185_302, k185_303, k185_304, k185_307, k185_310, k185_311, e1, e2, if_true, if_false, ite_true, ite_false, not_true_eq_false, not_false_eq_true, true_or, or_true, false_or, or_false, and_self, ok_n0, ok_ni, ok_nr, ok_nl, va_rf_some, va_rf_none, true_and, and_true, List.length_nil, List.length_cons, Option.toList_some, Option.toList_none, List.cons_append, List.nil_append, rK_uA, rK_uI, rK_uJ, rK_uP, rP_uA, rP_uI, rP_uJ, rJ_uA, rJ_uI, rJ_uP, rI_uJ, rI_uP, rz_uA, rz_uI, rz_uJ, rz_uP, rs_uA, rs_uI, rs_uJ, rs_uP, Nat.reduceAdd, Nat.reduceMul, Nat.reduceSub, Nat.reduceLeDiff, Nat.reduceLT, Nat.reduceEqDiff, Nat.add_zero, Nat.zero_add, Nat.zero_le, kX, kM, km, kb, s1.1, s1.2.1, ar_add, ar_oki, ar_cl, c1, c2]
  exact nx h2 r2 st
theorem c_6 (R : XR h X hd un V wt W d B F Sl) (N : MR h (X + 115) hd un V wt W) (hb : b < X) (kb : rK h b = (3, n)) (hi : i + 6 ≤ n) (hn : n ≤ 3072) (nx : ∀ h2, RELS h2 X → STP X h h2 → pGo 185 870 [some (.ref b), some (.ref X), some (.ref (X + 115)), some (.int (nI i))] [] h2 Q) : pGo 185 312 [some (.ref b), some (.ref X), some (.ref (X + 115)), some (.int (nI i))] [] h Q := by
  have kX := R.xk.1
  have kM := N.k.1
  have c1 : i + 1 < n := by omega
  obtain ⟨x, h1, h2, e1, e2, r2, st, sq, km⟩ := e_focus R N (rI h b (i + 1))
  have s1 := sq b hb
  rw [k185_312]
  simp (disch := omega) only [k185_313, k185_314, k185_315, k185_316, k185_317, k185_318, k185_321, k185_322, k185_323, k185_324, k185_325, k185_326, k185_327, k185_330, k185_333, k185_334, e1, e2, if_true, if_false, ite_true, ite_false, not_true_eq_false, not_false_eq_true, true_or, or_true, false_or, or_false, and_self, ok_n0, ok_ni, ok_nr, ok_nl, va_rf_some, va_rf_none, true_and, and_true, List.length_nil, List.length_cons, Option.toList_some, Option.toList_none, List.cons_append, List.nil_append, rK_uA, rK_uI, rK_uJ, rK_uP, rP_uA, rP_uI, rP_uJ, rJ_uA, rJ_uI, rJ_uP, rI_uJ, rI_uP, rz_uA, rz_uI, rz_uJ, rz_uP, rs_uA, rs_uI, rs_uJ, rs_uP, Nat.reduceAdd, Nat.reduceMul, Nat.reduceSub, Nat.reduceLeDiff, Nat.reduceLT, Nat.reduceEqDiff, Nat.add_zero, Nat.zero_add, Nat.zero_le, kX, kM, km, kb, s1.1, s1.2.1, ar_add, ar_oki, ar_cl, c1]
  exact nx h2 r2 st
theorem c_7 (R : XR h X hd un V wt W d B F Sl) (N : MR h (X + 115) hd un V wt W) (hb : b < X) (kb : rK h b = (3, n)) (hi : i + 6 ≤ n) (hn : n ≤ 3072) (nx : ∀ h2, RELS h2 X → STP X h h2 → pGo 185 870 [some (.ref b), some (.ref X), some (.ref (X + 115)), some (.int (nI i))] [] h2 Q) : pGo 185 335 [some (.ref b), some (.ref X), some (.ref (X + 115)), some (.int (nI i))] [] h Q := by
  have kX := R.xk.1
  have kM := N.k.1
  have c1 : i + 1 < n := by omega
  have c2 : i + 2 < n := by omega
  obtain ⟨x, h1, h2, e1, e2, r2, st, sq, km⟩ := e_click R N (rI h b (i + 1)) (rI h b (i + 2))
  have s1 := sq b hb
  rw [k185_335]
  simp (disch := omega) only [k185_336, k185_337, k185_338, k185_339, k185_340, k185_341, k185_342, k185_343, k185_344, k185_345, k185_346, k185_349, k185_350, k185_351, k185_352, k185_353, k185_354, k185_355, k185_356, k185_357, k185_358, k185_359, k185_360, k185_363, k185_366, k185_367, e1, e2, if_true, if_false, ite_true, ite_false, not_true_eq_false, not_false_eq_true, true_or, or_true, false_or, or_false, and_self, ok_n0, ok_ni, ok_nr, ok_nl, va_rf_some, va_rf_none, true_and, and_true, List.length_nil, List.length_cons, Option.toList_some, Option.toList_none, List.cons_append, List.nil_append, rK_uA, rK_uI, rK_uJ, rK_uP, rP_uA, rP_uI, rP_uJ, rJ_uA, rJ_uI, rJ_uP, rI_uJ, rI_uP, rz_uA, rz_uI, rz_uJ, rz_uP, rs_uA, rs_uI, rs_uJ, rs_uP, Nat.reduceAdd, Nat.reduceMul, Nat.reduceSub, Nat.reduceLeDiff, Nat.reduceLT, Nat.reduceEqDiff, Nat.add_zero, Nat.zero_add, Nat.zero_le, kX, kM, km, kb, s1.1, s1.2.1, ar_add, ar_oki, ar_cl, c1, c2]
  exact nx h2 r2 st
theorem c_8 (R : XR h X hd un V wt W d B F Sl) (N : MR h (X + 115) hd un V wt W) (hb : b < X) (kb : rK h b = (3, n)) (hi : i + 6 ≤ n) (hn : n ≤ 3072) (nx : ∀ h2, RELS h2 X → STP X h h2 → pGo 185 870 [some (.ref b), some (.ref X), some (.ref (X + 115)), some (.int (nI i))] [] h2 Q) : pGo 185 368 [some (.ref b), some (.ref X), some (.ref (X + 115)), some (.int (nI i))] [] h Q := by
  have kX := R.xk.1
  have kM := N.k.1
  have c1 : i + 1 < n := by omega
  have c2 : i + 2 < n := by omega
  have c3 : i + 3 < n := by omega
  have c4 : i + 4 < n := by omega
  have c5 : i + 5 < n := by omega
  obtain ⟨x, h1, h2, e1, e2, r2, st, sq, km⟩ := e_lift R N (rI h b (i + 1)) (rI h b (i + 2)) (rI h b (i + 3)) (rI h b (i + 4)) (rI h b (i + 5))
  have s1 := sq b hb
  rw [k185_368]
  simp (disch := omega) only [k185_369, k185_370, k185_371, k185_372, k185_373, k185_374, k185_375, k185_376, k185_377, k185_378, k185_379, k185_380, k185_381, k185_382, k185_383, k185_384, k185_385, k185_386, k185_387, k185_388, k185_389, k185_390, k185_391, k185_392, k185_393, k185_394, k185_397, k185_398, k185_399, k185_400, k185_401, k185_402, k185_403, k185_404, k185_405, k185_406, k185_407, k185_408, k185_409, k185_410, k185_411, k185_412, k185_413, k185_414, k185_415, k185_416, k185_417, k185_418, k185_419, k185_420, k185_421, k185_422, k185_423, k185_426, k185_429, k185_430, e1, e2, if_true, if_false, ite_true, ite_false, not_true_eq_false, not_false_eq_true, true_or, or_true, false_or, or_false, and_self, ok_n0, ok_ni, ok_nr, ok_nl, va_rf_some, va_rf_none, true_and, and_true, List.length_nil, List.length_cons, Option.toList_some, Option.toList_none, List.cons_append, List.nil_append, rK_uA, rK_uI, rK_uJ, rK_uP, rP_uA, rP_uI, rP_uJ, rJ_uA, rJ_uI, rJ_uP, rI_uJ, rI_uP, rz_uA, rz_uI, rz_uJ, rz_uP, rs_uA, rs_uI, rs_uJ, rs_uP, Nat.reduceAdd, Nat.reduceMul, Nat.reduceSub, Nat.reduceLeDiff, Nat.reduceLT, Nat.reduceEqDiff, Nat.add_zero, Nat.zero_add, Nat.zero_le, kX, kM, km, kb, s1.1, s1.2.1, ar_add, ar_oki, ar_cl, c1, c2, c3, c4, c5]
  exact nx h2 r2 st
theorem c_9 (R : XR h X hd un V wt W d B F Sl) (N : MR h (X + 115) hd un V wt W) (hb : b < X) (kb : rK h b = (3, n)) (hi : i + 6 ≤ n) (hn : n ≤ 3072) (nx : ∀ h2, RELS h2 X → STP X h h2 → pGo 185 870 [some (.ref b), some (.ref X), some (.ref (X + 115)), some (.int (nI i))] [] h2 Q) : pGo 185 431 [some (.ref b), some (.ref X), some (.ref (X + 115)), some (.int (nI i))] [] h Q := by
  have kX := R.xk.1
  have kM := N.k.1
  have c1 : i + 1 < n := by omega
  obtain ⟨x, h1, h2, e1, e2, r2, st, sq, km⟩ := e_sink R N (rI h b (i + 1))
  have s1 := sq b hb
  rw [k185_431]
  simp (disch := omega) only [k185_432, k185_433, k185_434, k185_435, k185_436, k185_437, k185_440, k185_441, k185_442, k185_443, k185_444, k185_445, k185_446, k185_449, k185_452, k185_453, e1, e2, if_true, if_false, ite_true, ite_false, not_true_eq_false, not_false_eq_true, true_or, or_true, false_or, or_false, and_self, ok_n0, ok_ni, ok_nr, ok_nl, va_rf_some, va_rf_none, true_and, and_true, List.length_nil, List.length_cons, Option.toList_some, Option.toList_none, List.cons_append, List.nil_append, rK_uA, rK_uI, rK_uJ, rK_uP, rP_uA, rP_uI, rP_uJ, rJ_uA, rJ_uI, rJ_uP, rI_uJ, rI_uP, rz_uA, rz_uI, rz_uJ, rz_uP, rs_uA, rs_uI, rs_uJ, rs_uP, Nat.reduceAdd, Nat.reduceMul, Nat.reduceSub, Nat.reduceLeDiff, Nat.reduceLT, Nat.reduceEqDiff, Nat.add_zero, Nat.zero_add, Nat.zero_le, kX, kM, km, kb, s1.1, s1.2.1, ar_add, ar_oki, ar_cl, c1]
  exact nx h2 r2 st
theorem c_10 (R : XR h X hd un V wt W d B F Sl) (N : MR h (X + 115) hd un V wt W) (hb : b < X) (kb : rK h b = (3, n)) (hi : i + 6 ≤ n) (hn : n ≤ 3072) (nx : ∀ h2, RELS h2 X → STP X h h2 → pGo 185 870 [some (.ref b), some (.ref X), some (.ref (X + 115)), some (.int (nI i))] [] h2 Q) : pGo 185 454 [some (.ref b), some (.ref X), some (.ref (X + 115)), some (.int (nI i))] [] h Q := by
  have kX := R.xk.1
  have kM := N.k.1
  have c1 : i + 1 < n := by omega
  obtain ⟨x, h1, h2, e1, e2, r2, st, sq, km⟩ := e_layout R N (rI h b (i + 1))
  have s1 := sq b hb
  rw [k185_454]
  simp (disch := omega) only [k185_455, k185_456, k185_457, k185_458, k185_459, k185_460, k185_463, k185_464, k185_465, k185_466, k185_467, k185_468, k185_469, k185_472, k185_475, k185_476, e1, e2, if_true, if_false, ite_true, ite_false, not_true_eq_false, not_false_eq_true, true_or, or_true, false_or, or_false, and_self, ok_n0, ok_ni, ok_nr, ok_nl, va_rf_some, va_rf_none, true_and, and_true, List.length_nil, List.length_cons, Option.toList_some, Option.toList_none, List.cons_append, List.nil_append, rK_uA, rK_uI, rK_uJ, rK_uP, rP_uA, rP_uI, rP_uJ, rJ_uA, rJ_uI, rJ_uP, rI_uJ, rI_uP, rz_uA, rz_uI, rz_uJ, rz_uP, rs_uA, rs_uI, rs_uJ, rs_uP, Nat.reduceAdd, Nat.reduceMul, Nat.reduceSub, Nat.reduceLeDiff, Nat.reduceLT, Nat.reduceEqDiff, Nat.add_zero, Nat.zero_add, Nat.zero_le, kX, kM, km, kb, s1.1, s1.2.1, ar_add, ar_oki, ar_cl, c1]
  exact nx h2 r2 st
theorem c_11 (R : XR h X hd un V wt W d B F Sl) (N : MR h (X + 115) hd un V wt W) (hb : b < X) (kb : rK h b = (3, n)) (hi : i + 6 ≤ n) (hn : n ≤ 3072) (nx : ∀ h2, RELS h2 X → STP X h h2 → pGo 185 870 [some (.ref b), some (.ref X), some (.ref (X + 115)), some (.int (nI i))] [] h2 Q) : pGo 185 477 [some (.ref b), some (.ref X), some (.ref (X + 115)), some (.int (nI i))] [] h Q := by
  have kX := R.xk.1
  have kM := N.k.1
  have c1 : i + 1 < n := by omega
  have c2 : i + 2 < n := by omega
  obtain ⟨x, h1, h2, e1, e2, r2, st, sq, km⟩ := e_shape R N (rI h b (i + 1)) (rI h b (i + 2))
  have s1 := sq b hb
  rw [k185_477]
  simp (disch := omega) only [k185_478, k185_479, k185_480, k185_481, k185_482, k185_483, k185_484, k185_485, k185_486, k185_487, k185_488, k185_491, k185_492, k185_493, k185_494, k185_495, k185_496, k185_497, k185_498, k185_499, k185_500, k185_501, k185_502, k185_505, k185_508, k185_509, e1, e2, if_true, if_false, ite_true, ite_false, not_true_eq_false, not_false_eq_true, true_or, or_true, false_or, or_false, and_self, ok_n0, ok_ni, ok_nr, ok_nl, va_rf_some, va_rf_none, true_and, and_true, List.length_nil, List.length_cons, Option.toList_some, Option.toList_none, List.cons_append, List.nil_append, rK_uA, rK_uI, rK_uJ, rK_uP, rP_uA, rP_uI, rP_uJ, rJ_uA, rJ_uI, rJ_uP, rI_uJ, rI_uP, rz_uA, rz_uI, rz_uJ, rz_uP, rs_uA, rs_uI, rs_uJ, rs_uP, Nat.reduceAdd, Nat.reduceMul, Nat.reduceSub, Nat.reduceLeDiff, Nat.reduceLT, Nat.reduceEqDiff, Nat.add_zero, Nat.zero_add, Nat.zero_le, kX, kM, km, kb, s1.1, s1.2.1, ar_add, ar_oki, ar_cl, c1, c2]
  exact nx h2 r2 st
theorem c_12 (R : XR h X hd un V wt W d B F Sl) (N : MR h (X + 115) hd un V wt W) (hb : b < X) (kb : rK h b = (3, n)) (hi : i + 6 ≤ n) (hn : n ≤ 3072) (nx : ∀ h2, RELS h2 X → STP X h h2 → pGo 185 870 [some (.ref b), some (.ref X), some (.ref (X + 115)), some (.int (nI i))] [] h2 Q) : pGo 185 510 [some (.ref b), some (.ref X), some (.ref (X + 115)), some (.int (nI i))] [] h Q := by
  have kX := R.xk.1
  have kM := N.k.1
  have c1 : i + 1 < n := by omega
  have c2 : i + 2 < n := by omega
  have c3 : i + 3 < n := by omega
  have c4 : i + 4 < n := by omega
  obtain ⟨x, h1, h2, e1, e2, r2, st, sq, km⟩ := e_rectangle R N (rI h b (i + 1)) (rI h b (i + 2)) (rI h b (i + 3)) (rI h b (i + 4))
  have s1 := sq b hb
  rw [k185_510]
  simp (disch := omega) only [k185_511, k185_512, k185_513, k185_514, k185_515, k185_516, k185_517, k185_518, k185_519, k185_520, k185_521, k185_522, k185_523, k185_524, k185_525, k185_526, k185_527, k185_528, k185_529, k185_530, k185_531, k185_534, k185_535, k185_536, k185_537, k185_538, k185_539, k185_540, k185_541, k185_542, k185_543, k185_544, k185_545, k185_546, k185_547, k185_548, k185_549, k185_550, k185_551, k185_552, k185_553, k185_554, k185_555, k185_558, k185_561, k185_562, e1, e2, if_true, if_false, ite_true, ite_false, not_true_eq_false, not_false_eq_true, true_or, or_true, false_or, or_false, and_self, ok_n0, ok_ni, ok_nr, ok_nl, va_rf_some, va_rf_none, true_and, and_true, List.length_nil, List.length_cons, Option.toList_some, Option.toList_none, List.cons_append, List.nil_append, rK_uA, rK_uI, rK_uJ, rK_uP, rP_uA, rP_uI, rP_uJ, rJ_uA, rJ_uI, rJ_uP, rI_uJ, rI_uP, rz_uA, rz_uI, rz_uJ, rz_uP, rs_uA, rs_uI, rs_uJ, rs_uP, Nat.reduceAdd, Nat.reduceMul, Nat.reduceSub, Nat.reduceLeDiff, Nat.reduceLT, Nat.reduceEqDiff, Nat.add_zero, Nat.zero_add, Nat.zero_le, kX, kM, km, kb, s1.1, s1.2.1, ar_add, ar_oki, ar_cl, c1, c2, c3, c4]
  exact nx h2 r2 st
theorem c_13 (R : XR h X hd un V wt W d B F Sl) (N : MR h (X + 115) hd un V wt W) (hb : b < X) (kb : rK h b = (3, n)) (hi : i + 6 ≤ n) (hn : n ≤ 3072) (nx : ∀ h2, RELS h2 X → STP X h h2 → pGo 185 870 [some (.ref b), some (.ref X), some (.ref (X + 115)), some (.int (nI i))] [] h2 Q) : pGo 185 563 [some (.ref b), some (.ref X), some (.ref (X + 115)), some (.int (nI i))] [] h Q := by
  have kX := R.xk.1
  have kM := N.k.1
  obtain ⟨x, h1, h2, e1, e2, r2, st, sq, km⟩ := e_rescreen R N 
  have s1 := sq b hb
  rw [k185_563]
  simp (disch := omega) only [k185_564, k185_567, k185_568, k185_571, k185_574, k185_575, e1, e2, if_true, if_false, ite_true, ite_false, not_true_eq_false, not_false_eq_true, true_or, or_true, false_or, or_false, and_self, ok_n0, ok_ni, ok_nr, ok_nl, va_rf_some, va_rf_none, true_and, and_true, List.length_nil, List.length_cons, Option.toList_some, Option.toList_none, List.cons_append, List.nil_append, rK_uA, rK_uI, rK_uJ, rK_uP, rP_uA, rP_uI, rP_uJ, rJ_uA, rJ_uI, rJ_uP, rI_uJ, rI_uP, rz_uA, rz_uI, rz_uJ, rz_uP, rs_uA, rs_uI, rs_uJ, rs_uP, Nat.reduceAdd, Nat.reduceMul, Nat.reduceSub, Nat.reduceLeDiff, Nat.reduceLT, Nat.reduceEqDiff, Nat.add_zero, Nat.zero_add, Nat.zero_le, kX, kM, km, kb, s1.1, s1.2.1, ar_add, ar_oki, ar_cl]
  exact nx h2 r2 st
theorem c_14 (R : XR h X hd un V wt W d B F Sl) (N : MR h (X + 115) hd un V wt W) (hb : b < X) (kb : rK h b = (3, n)) (hi : i + 6 ≤ n) (hn : n ≤ 3072) (nx : ∀ h2, RELS h2 X → STP X h h2 → pGo 185 870 [some (.ref b), some (.ref X), some (.ref (X + 115)), some (.int (nI i))] [] h2 Q) : pGo 185 576 [some (.ref b), some (.ref X), some (.ref (X + 115)), some (.int (nI i))] [] h Q := by
  have kX := R.xk.1
  have kM := N.k.1
  obtain ⟨x, h1, h2, e1, e2, r2, st, sq, km⟩ := e_undo R N 
  have s1 := sq b hb
  rw [k185_576]
  simp (disch := omega) only [k185_577, k185_580, k185_581, k185_584, k185_587, k185_588, e1, e2, if_true, if_false, ite_true, ite_false, not_true_eq_false, not_false_eq_true, true_or, or_true, false_or, or_false, and_self, ok_n0, ok_ni, ok_nr, ok_nl, va_rf_some, va_rf_none, true_and, and_true, List.length_nil, List.length_cons, Option.toList_some, Option.toList_none, List.cons_append, List.nil_append, rK_uA, rK_uI, rK_uJ, rK_uP, rP_uA, rP_uI, rP_uJ, rJ_uA, rJ_uI, rJ_uP, rI_uJ, rI_uP, rz_uA, rz_uI, rz_uJ, rz_uP, rs_uA, rs_uI, rs_uJ, rs_uP, Nat.reduceAdd, Nat.reduceMul, Nat.reduceSub, Nat.reduceLeDiff, Nat.reduceLT, Nat.reduceEqDiff, Nat.add_zero, Nat.zero_add, Nat.zero_le, kX, kM, km, kb, s1.1, s1.2.1, ar_add, ar_oki, ar_cl]
  exact nx h2 r2 st
theorem c_15 (R : XR h X hd un V wt W d B F Sl) (N : MR h (X + 115) hd un V wt W) (hb : b < X) (kb : rK h b = (3, n)) (hi : i + 6 ≤ n) (hn : n ≤ 3072) (nx : ∀ h2, RELS h2 X → STP X h h2 → pGo 185 870 [some (.ref b), some (.ref X), some (.ref (X + 115)), some (.int (nI i))] [] h2 Q) : pGo 185 589 [some (.ref b), some (.ref X), some (.ref (X + 115)), some (.int (nI i))] [] h Q := by
  have kX := R.xk.1
  have kM := N.k.1
  obtain ⟨x, h1, h2, e1, e2, r2, st, sq, km⟩ := e_redo R N 
  have s1 := sq b hb
  rw [k185_589]
  simp (disch := omega) only [k185_590, k185_593, k185_594, k185_597, k185_600, k185_601, e1, e2, if_true, if_false, ite_true, ite_false, not_true_eq_false, not_false_eq_true, true_or, or_true, false_or, or_false, and_self, ok_n0, ok_ni, ok_nr, ok_nl, va_rf_some, va_rf_none, true_and, and_true, List.length_nil, List.length_cons, Option.toList_some, Option.toList_none, List.cons_append, List.nil_append, rK_uA, rK_uI, rK_uJ, rK_uP, rP_uA, rP_uI, rP_uJ, rJ_uA, rJ_uI, rJ_uP, rI_uJ, rI_uP, rz_uA, rz_uI, rz_uJ, rz_uP, rs_uA, rs_uI, rs_uJ, rs_uP, Nat.reduceAdd, Nat.reduceMul, Nat.reduceSub, Nat.reduceLeDiff, Nat.reduceLT, Nat.reduceEqDiff, Nat.add_zero, Nat.zero_add, Nat.zero_le, kX, kM, km, kb, s1.1, s1.2.1, ar_add, ar_oki, ar_cl]
  exact nx h2 r2 st
theorem c_16 (R : XR h X hd un V wt W d B F Sl) (N : MR h (X + 115) hd un V wt W) (hb : b < X) (kb : rK h b = (3, n)) (hi : i + 6 ≤ n) (hn : n ≤ 3072) (nx : ∀ h2, RELS h2 X → STP X h h2 → pGo 185 870 [some (.ref b), some (.ref X), some (.ref (X + 115)), some (.int (nI i))] [] h2 Q) : pGo 185 602 [some (.ref b), some (.ref X), some (.ref (X + 115)), some (.int (nI i))] [] h Q := by
  have kX := R.xk.1
  have kM := N.k.1
  have c1 : i + 1 < n := by omega
  have c2 : i + 2 < n := by omega
  obtain ⟨x, h1, h2, e1, e2, r2, st, sq, km⟩ := e_workspace R N (rI h b (i + 1)) (rI h b (i + 2))
  have s1 := sq b hb
  rw [k185_602]
  simp (disch := omega) only [k185_603, k185_604, k185_605, k185_606, k185_607, k185_608, k185_609, k185_610, k185_611, k185_612, k185_613, k185_616, k185_617, k185_618, k185_619, k185_620, k185_621, k185_622, k185_623, k185_624, k185_625, k185_626, k185_627, k185_630, k185_633, k185_634, e1, e2, if_true, if_false, ite_true, ite_false, not_true_eq_false, not_false_eq_true, true_or, or_true, false_or, or_false, and_self, ok_n0, ok_ni, ok_nr, ok_nl, va_rf_some, va_rf_none, true_and, and_true, List.length_nil, List.length_cons, Option.toList_some, Option.toList_none, List.cons_append, List.nil_append, rK_uA, rK_uI, rK_uJ, rK_uP, rP_uA, rP_uI, rP_uJ, rJ_uA, rJ_uI, rJ_uP, rI_uJ, rI_uP, rz_uA, rz_uI, rz_uJ, rz_uP, rs_uA, rs_uI, rs_uJ, rs_uP, Nat.reduceAdd, Nat.reduceMul, Nat.reduceSub, Nat.reduceLeDiff, Nat.reduceLT, Nat.reduceEqDiff, Nat.add_zero, Nat.zero_add, Nat.zero_le, kX, kM, km, kb, s1.1, s1.2.1, ar_add, ar_oki, ar_cl, c1, c2]
  exact nx h2 r2 st
theorem c_17 (R : XR h X hd un V wt W d B F Sl) (N : MR h (X + 115) hd un V wt W) (hb : b < X) (kb : rK h b = (3, n)) (hi : i + 6 ≤ n) (hn : n ≤ 3072) (nx : ∀ h2, RELS h2 X → STP X h h2 → pGo 185 870 [some (.ref b), some (.ref X), some (.ref (X + 115)), some (.int (nI i))] [] h2 Q) : pGo 185 635 [some (.ref b), some (.ref X), some (.ref (X + 115)), some (.int (nI i))] [] h Q := by
  have kX := R.xk.1
  have kM := N.k.1
  have c1 : i + 1 < n := by omega
  have c2 : i + 2 < n := by omega
  obtain ⟨x, h1, h2, e1, e2, r2, st, sq, km⟩ := e_screen R N (rI h b (i + 1)) (rI h b (i + 2))
  have s1 := sq b hb
  rw [k185_635]
  simp (disch := omega) only [k185_636, k185_637, k185_638, k185_639, k185_640, k185_641, k185_642, k185_643, k185_644, k185_645, k185_646, k185_649, k185_650, k185_651, k185_652, k185_653, k185_654, k185_655, k185_656, k185_657, k185_658, k185_659, k185_660, k185_663, k185_666, k185_667, e1, e2, if_true, if_false, ite_true, ite_false, not_true_eq_false, not_false_eq_true, true_or, or_true, false_or, or_false, and_self, ok_n0, ok_ni, ok_nr, ok_nl, va_rf_some, va_rf_none, true_and, and_true, List.length_nil, List.length_cons, Option.toList_some, Option.toList_none, List.cons_append, List.nil_append, rK_uA, rK_uI, rK_uJ, rK_uP, rP_uA, rP_uI, rP_uJ, rJ_uA, rJ_uI, rJ_uP, rI_uJ, rI_uP, rz_uA, rz_uI, rz_uJ, rz_uP, rs_uA, rs_uI, rs_uJ, rs_uP, Nat.reduceAdd, Nat.reduceMul, Nat.reduceSub, Nat.reduceLeDiff, Nat.reduceLT, Nat.reduceEqDiff, Nat.add_zero, Nat.zero_add, Nat.zero_le, kX, kM, km, kb, s1.1, s1.2.1, ar_add, ar_oki, ar_cl, c1, c2]
  exact nx h2 r2 st
theorem c_18 (R : XR h X hd un V wt W d B F Sl) (N : MR h (X + 115) hd un V wt W) (hb : b < X) (kb : rK h b = (3, n)) (hi : i + 6 ≤ n) (hn : n ≤ 3072) (nx : ∀ h2, RELS h2 X → STP X h h2 → pGo 185 870 [some (.ref b), some (.ref X), some (.ref (X + 115)), some (.int (nI i))] [] h2 Q) : pGo 185 668 [some (.ref b), some (.ref X), some (.ref (X + 115)), some (.int (nI i))] [] h Q := by
  have kX := R.xk.1
  have kM := N.k.1
  have c1 : i + 1 < n := by omega
  obtain ⟨x, h1, h2, e1, e2, r2, st, sq, km⟩ := e_count R N (rI h b (i + 1))
  have s1 := sq b hb
  rw [k185_668]
  simp (disch := omega) only [k185_669, k185_670, k185_671, k185_672, k185_673, k185_674, k185_677, k185_678, k185_679, k185_680, k185_681, k185_682, k185_683, k185_686, k185_689, k185_690, e1, e2, if_true, if_false, ite_true, ite_false, not_true_eq_false, not_false_eq_true, true_or, or_true, false_or, or_false, and_self, ok_n0, ok_ni, ok_nr, ok_nl, va_rf_some, va_rf_none, true_and, and_true, List.length_nil, List.length_cons, Option.toList_some, Option.toList_none, List.cons_append, List.nil_append, rK_uA, rK_uI, rK_uJ, rK_uP, rP_uA, rP_uI, rP_uJ, rJ_uA, rJ_uI, rJ_uP, rI_uJ, rI_uP, rz_uA, rz_uI, rz_uJ, rz_uP, rs_uA, rs_uI, rs_uJ, rs_uP, Nat.reduceAdd, Nat.reduceMul, Nat.reduceSub, Nat.reduceLeDiff, Nat.reduceLT, Nat.reduceEqDiff, Nat.add_zero, Nat.zero_add, Nat.zero_le, kX, kM, km, kb, s1.1, s1.2.1, ar_add, ar_oki, ar_cl, c1]
  exact nx h2 r2 st
theorem c_19 (R : XR h X hd un V wt W d B F Sl) (N : MR h (X + 115) hd un V wt W) (hb : b < X) (kb : rK h b = (3, n)) (hi : i + 6 ≤ n) (hn : n ≤ 3072) (nx : ∀ h2, RELS h2 X → STP X h h2 → pGo 185 870 [some (.ref b), some (.ref X), some (.ref (X + 115)), some (.int (nI i))] [] h2 Q) : pGo 185 691 [some (.ref b), some (.ref X), some (.ref (X + 115)), some (.int (nI i))] [] h Q := by
  have kX := R.xk.1
  have kM := N.k.1
  have c1 : i + 1 < n := by omega
  have c2 : i + 2 < n := by omega
  obtain ⟨x, h1, h2, e1, e2, r2, st, sq, km⟩ := e_row R N (rI h b (i + 1)) (rI h b (i + 2))
  have s1 := sq b hb
  rw [k185_691]
  simp (disch := omega) only [k185_692, k185_693, k185_694, k185_695, k185_696, k185_697, k185_698, k185_699, k185_700, k185_701, k185_702, k185_705, k185_706, k185_707, k185_708, k185_709, k185_710, k185_711, k185_712, k185_713, k185_714, k185_715, k185_716, k185_719, k185_722, k185_723, e1, e2, if_true, if_false, ite_true, ite_false, not_true_eq_false, not_false_eq_true, true_or, or_true, false_or, or_false, and_self, ok_n0, ok_ni, ok_nr, ok_nl, va_rf_some, va_rf_none, true_and, and_true, List.length_nil, List.length_cons, Option.toList_some, Option.toList_none, List.cons_append, List.nil_append, rK_uA, rK_uI, rK_uJ, rK_uP, rP_uA, rP_uI, rP_uJ, rJ_uA, rJ_uI, rJ_uP, rI_uJ, rI_uP, rz_uA, rz_uI, rz_uJ, rz_uP, rs_uA, rs_uI, rs_uJ, rs_uP, Nat.reduceAdd, Nat.reduceMul, Nat.reduceSub, Nat.reduceLeDiff, Nat.reduceLT, Nat.reduceEqDiff, Nat.add_zero, Nat.zero_add, Nat.zero_le, kX, kM, km, kb, s1.1, s1.2.1, ar_add, ar_oki, ar_cl, c1, c2]
  exact nx h2 r2 st
theorem c_20 (R : XR h X hd un V wt W d B F Sl) (N : MR h (X + 115) hd un V wt W) (hb : b < X) (kb : rK h b = (3, n)) (hi : i + 6 ≤ n) (hn : n ≤ 3072) (nx : ∀ h2, RELS h2 X → STP X h h2 → pGo 185 870 [some (.ref b), some (.ref X), some (.ref (X + 115)), some (.int (nI i))] [] h2 Q) : pGo 185 724 [some (.ref b), some (.ref X), some (.ref (X + 115)), some (.int (nI i))] [] h Q := by
  have kX := R.xk.1
  have kM := N.k.1
  have c1 : i + 1 < n := by omega
  have c2 : i + 2 < n := by omega
  obtain ⟨x, h1, h2, e1, e2, r2, st, sq, km⟩ := e_window R N (rI h b (i + 1)) (rI h b (i + 2))
  have s1 := sq b hb
  rw [k185_724]
  simp (disch := omega) only [k185_725, k185_726, k185_727, k185_728, k185_729, k185_730, k185_731, k185_732, k185_733, k185_734, k185_735, k185_738, k185_739, k185_740, k185_741, k185_742, k185_743, k185_744, k185_745, k185_746, k185_747, k185_748, k185_749, k185_752, k185_755, k185_756, e1, e2, if_true, if_false, ite_true, ite_false, not_true_eq_false, not_false_eq_true, true_or, or_true, false_or, or_false, and_self, ok_n0, ok_ni, ok_nr, ok_nl, va_rf_some, va_rf_none, true_and, and_true, List.length_nil, List.length_cons, Option.toList_some, Option.toList_none, List.cons_append, List.nil_append, rK_uA, rK_uI, rK_uJ, rK_uP, rP_uA, rP_uI, rP_uJ, rJ_uA, rJ_uI, rJ_uP, rI_uJ, rI_uP, rz_uA, rz_uI, rz_uJ, rz_uP, rs_uA, rs_uI, rs_uJ, rs_uP, Nat.reduceAdd, Nat.reduceMul, Nat.reduceSub, Nat.reduceLeDiff, Nat.reduceLT, Nat.reduceEqDiff, Nat.add_zero, Nat.zero_add, Nat.zero_le, kX, kM, km, kb, s1.1, s1.2.1, ar_add, ar_oki, ar_cl, c1, c2]
  exact nx h2 r2 st
theorem c_21 (R : XR h X hd un V wt W d B F Sl) (N : MR h (X + 115) hd un V wt W) (hb : b < X) (kb : rK h b = (3, n)) (hi : i + 6 ≤ n) (hn : n ≤ 3072) (nx : ∀ h2, RELS h2 X → STP X h h2 → pGo 185 870 [some (.ref b), some (.ref X), some (.ref (X + 115)), some (.int (nI i))] [] h2 Q) : pGo 185 757 [some (.ref b), some (.ref X), some (.ref (X + 115)), some (.int (nI i))] [] h Q := by
  have kX := R.xk.1
  have kM := N.k.1
  have c1 : i + 1 < n := by omega
  have c2 : i + 2 < n := by omega
  obtain ⟨x, h1, h2, e1, e2, r2, st, sq, km⟩ := e_place R N (rI h b (i + 1)) (rI h b (i + 2))
  have s1 := sq b hb
  rw [k185_757]
  simp (disch := omega) only [k185_758, k185_759, k185_760, k185_761, k185_762, k185_763, k185_764, k185_765, k185_766, k185_767, k185_768, k185_771, k185_772, k185_773, k185_774, k185_775, k185_776, k185_777, k185_778, k185_779, k185_780, k185_781, k185_782, k185_785, k185_788, k185_789, e1, e2, if_true, if_false, ite_true, ite_false, not_true_eq_false, not_false_eq_true, true_or, or_true, false_or, or_false, and_self, ok_n0, ok_ni, ok_nr, ok_nl, va_rf_some, va_rf_none, true_and, and_true, List.length_nil, List.length_cons, Option.toList_some, Option.toList_none, List.cons_append, List.nil_append, rK_uA, rK_uI, rK_uJ, rK_uP, rP_uA, rP_uI, rP_uJ, rJ_uA, rJ_uI, rJ_uP, rI_uJ, rI_uP, rz_uA, rz_uI, rz_uJ, rz_uP, rs_uA, rs_uI, rs_uJ, rs_uP, Nat.reduceAdd, Nat.reduceMul, Nat.reduceSub, Nat.reduceLeDiff, Nat.reduceLT, Nat.reduceEqDiff, Nat.add_zero, Nat.zero_add, Nat.zero_le, kX, kM, km, kb, s1.1, s1.2.1, ar_add, ar_oki, ar_cl, c1, c2]
  exact nx h2 r2 st
theorem c_22 (R : XR h X hd un V wt W d B F Sl) (N : MR h (X + 115) hd un V wt W) (hb : b < X) (kb : rK h b = (3, n)) (hi : i + 6 ≤ n) (hn : n ≤ 3072) (nx : ∀ h2, RELS h2 X → STP X h h2 → pGo 185 870 [some (.ref b), some (.ref X), some (.ref (X + 115)), some (.int (nI i))] [] h2 Q) : pGo 185 790 [some (.ref b), some (.ref X), some (.ref (X + 115)), some (.int (nI i))] [] h Q := by
  have kX := R.xk.1
  have kM := N.k.1
  have c1 : i + 1 < n := by omega
  have c2 : i + 2 < n := by omega
  obtain ⟨x, h1, h2, e1, e2, r2, st, sq, km⟩ := e_shown R N (rI h b (i + 1)) (rI h b (i + 2))
  have s1 := sq b hb
  rw [k185_790]
  simp (disch := omega) only [k185_791, k185_792, k185_793, k185_794, k185_795, k185_796, k185_797, k185_798, k185_799, k185_800, k185_801, k185_804, k185_805, k185_806, k185_807, k185_808, k185_809, k185_810, k185_811, k185_812, k185_813, k185_814, k185_815, k185_818, k185_821, k185_822, e1, e2, if_true, if_false, ite_true, ite_false, not_true_eq_false, not_false_eq_true, true_or, or_true, false_or, or_false, and_self, ok_n0, ok_ni, ok_nr, ok_nl, va_rf_some, va_rf_none, true_and, and_true, List.length_nil, List.length_cons, Option.toList_some, Option.toList_none, List.cons_append, List.nil_append, rK_uA, rK_uI, rK_uJ, rK_uP, rP_uA, rP_uI, rP_uJ, rJ_uA, rJ_uI, rJ_uP, rI_uJ, rI_uP, rz_uA, rz_uI, rz_uJ, rz_uP, rs_uA, rs_uI, rs_uJ, rs_uP, Nat.reduceAdd, Nat.reduceMul, Nat.reduceSub, Nat.reduceLeDiff, Nat.reduceLT, Nat.reduceEqDiff, Nat.add_zero, Nat.zero_add, Nat.zero_le, kX, kM, km, kb, s1.1, s1.2.1, ar_add, ar_oki, ar_cl, c1, c2]
  exact nx h2 r2 st
theorem c_23 (R : XR h X hd un V wt W d B F Sl) (N : MR h (X + 115) hd un V wt W) (hb : b < X) (kb : rK h b = (3, n)) (hi : i + 6 ≤ n) (hn : n ≤ 3072) (nx : ∀ h2, RELS h2 X → STP X h h2 → pGo 185 870 [some (.ref b), some (.ref X), some (.ref (X + 115)), some (.int (nI i))] [] h2 Q) : pGo 185 823 [some (.ref b), some (.ref X), some (.ref (X + 115)), some (.int (nI i))] [] h Q := by
  have kX := R.xk.1
  have kM := N.k.1
  have c1 : i + 1 < n := by omega
  have c2 : i + 2 < n := by omega
  obtain ⟨x, h1, h2, e1, e2, r2, st, sq, km⟩ := e_at R N (rI h b (i + 1)) (rI h b (i + 2))
  have s1 := sq b hb
  rw [k185_823]
  simp (disch := omega) only [k185_824, k185_825, k185_826, k185_827, k185_828, k185_829, k185_830, k185_831, k185_832, k185_833, k185_834, k185_837, k185_838, k185_839, k185_840, k185_841, k185_842, k185_843, k185_844, k185_845, k185_846, k185_847, k185_848, k185_851, k185_854, k185_855, e1, e2, if_true, if_false, ite_true, ite_false, not_true_eq_false, not_false_eq_true, true_or, or_true, false_or, or_false, and_self, ok_n0, ok_ni, ok_nr, ok_nl, va_rf_some, va_rf_none, true_and, and_true, List.length_nil, List.length_cons, Option.toList_some, Option.toList_none, List.cons_append, List.nil_append, rK_uA, rK_uI, rK_uJ, rK_uP, rP_uA, rP_uI, rP_uJ, rJ_uA, rJ_uI, rJ_uP, rI_uJ, rI_uP, rz_uA, rz_uI, rz_uJ, rz_uP, rs_uA, rs_uI, rs_uJ, rs_uP, Nat.reduceAdd, Nat.reduceMul, Nat.reduceSub, Nat.reduceLeDiff, Nat.reduceLT, Nat.reduceEqDiff, Nat.add_zero, Nat.zero_add, Nat.zero_le, kX, kM, km, kb, s1.1, s1.2.1, ar_add, ar_oki, ar_cl, c1, c2]
  exact nx h2 r2 st
theorem c_24 (R : XR h X hd un V wt W d B F Sl) (N : MR h (X + 115) hd un V wt W) (hb : b < X) (kb : rK h b = (3, n)) (hi : i + 6 ≤ n) (hn : n ≤ 3072) (nx : ∀ h2, RELS h2 X → STP X h h2 → pGo 185 870 [some (.ref b), some (.ref X), some (.ref (X + 115)), some (.int (nI i))] [] h2 Q) : pGo 185 856 [some (.ref b), some (.ref X), some (.ref (X + 115)), some (.int (nI i))] [] h Q := by
  have kX := R.xk.1
  have kM := N.k.1
  obtain ⟨x, h2, e1, e2, r2, st⟩ := e_sum R N
  rw [k185_856]
  simp (disch := omega) only [k185_857, k185_860, k185_861, k185_864, k185_865, k185_868, k185_869, e1, e2, lg_cmp_0, if_true, if_false, ite_true, ite_false, not_true_eq_false, not_false_eq_true, true_or, or_true, false_or, or_false, and_self, ok_n0, ok_ni, ok_nr, ok_nl, va_rf_some, va_rf_none, true_and, and_true, List.length_nil, List.length_cons, Option.toList_some, Option.toList_none, List.cons_append, List.nil_append, rK_uA, rK_uI, rK_uJ, rK_uP, rP_uA, rP_uI, rP_uJ, rJ_uA, rJ_uI, rJ_uP, rI_uJ, rI_uP, rz_uA, rz_uI, rz_uJ, rz_uP, rs_uA, rs_uI, rs_uJ, rs_uP, Nat.reduceAdd, Nat.reduceMul, Nat.reduceSub, Nat.reduceLeDiff, Nat.reduceLT, Nat.reduceEqDiff, Nat.add_zero, Nat.zero_add, Nat.zero_le, kX, kM]
  exact nx h2 r2 st
theorem STP.rf (X : Nat) (h : pm_H) : STP X h h := ⟨fun q _ => SQ.rf h q, by omega, by omega⟩
theorem law_step (R : XR h X hd un V wt W d B F Sl) (N : MR h (X + 115) hd un V wt W) (hb : b < X) (kb : rK h b = (3, n)) (hi : i + 6 ≤ n) (hn : n ≤ 3072) (nx : ∀ h2, RELS h2 X → STP X h h2 → pGo 185 870 [some (.ref b), some (.ref X), some (.ref (X + 115)), some (.int (nI i))] [] h2 Q) : pGo 185 27 [some (.ref b), some (.ref X), some (.ref (X + 115)), some (.int (nI i))] [] h Q := by
  have c0 : i < n := by omega
  rw [k185_27]
  simp (disch := omega) only [k185_28, k185_29, k185_30, k185_32, k185_33, if_true, if_false, ite_true, ite_false, not_true_eq_false, not_false_eq_true, true_or, or_true, false_or, or_false, and_self, ok_n0, ok_ni, ok_nr, ok_nl, va_rf_some, va_rf_none, true_and, and_true, List.length_nil, List.length_cons, Option.toList_some, Option.toList_none, List.cons_append, List.nil_append, rK_uA, rK_uI, rK_uJ, rK_uP, rP_uA, rP_uI, rP_uJ, rJ_uA, rJ_uI, rJ_uP, rI_uJ, rI_uP, rz_uA, rz_uI, rz_uJ, rz_uP, rs_uA, rs_uI, rs_uJ, rs_uP, Nat.reduceAdd, Nat.reduceMul, Nat.reduceSub, Nat.reduceLeDiff, Nat.reduceLT, Nat.reduceEqDiff, Nat.add_zero, Nat.zero_add, Nat.zero_le, kb, ar_oki, ar_cl, c0]
  generalize rI h b i &&& nI 31 = x
  rcases isin_cases x (n := 25) (by omega) with ⟨-, zz⟩ | ⟨uu, hu, rfl, -⟩
  · rw [gsw_o (N := 25) (by rfl) zz]
    exact nx h ⟨_, _, _, _, _, _, _, _, _, R, N⟩ (STP.rf X h)
  · have hu2 : uu = 0 ∨ uu = 1 ∨ uu = 2 ∨ uu = 3 ∨ uu = 4 ∨ uu = 5 ∨ uu = 6 ∨ uu = 7 ∨ uu = 8 ∨ uu = 9 ∨ uu = 10 ∨ uu = 11 ∨ uu = 12 ∨ uu = 13 ∨ uu = 14 ∨ uu = 15 ∨ uu = 16 ∨ uu = 17 ∨ uu = 18 ∨ uu = 19 ∨ uu = 20 ∨ uu = 21 ∨ uu = 22 ∨ uu = 23 ∨ uu = 24 := by omega
    rw [gsw_h (by exact hu)]
    rcases hu2 with rfl | rfl | rfl | rfl | rfl | rfl | rfl | rfl | rfl | rfl | rfl | rfl | rfl | rfl | rfl | rfl | rfl | rfl | rfl | rfl | rfl | rfl | rfl | rfl | rfl
    · exact c_0 R N hb kb hi hn nx
    · exact c_1 R N hb kb hi hn nx
    · exact c_2 R N hb kb hi hn nx
    · exact c_3 R N hb kb hi hn nx
    · exact c_4 R N hb kb hi hn nx
    · exact c_5 R N hb kb hi hn nx
    · exact c_6 R N hb kb hi hn nx
    · exact c_7 R N hb kb hi hn nx
    · exact c_8 R N hb kb hi hn nx
    · exact c_9 R N hb kb hi hn nx
    · exact c_10 R N hb kb hi hn nx
    · exact c_11 R N hb kb hi hn nx
    · exact c_12 R N hb kb hi hn nx
    · exact c_13 R N hb kb hi hn nx
    · exact c_14 R N hb kb hi hn nx
    · exact c_15 R N hb kb hi hn nx
    · exact c_16 R N hb kb hi hn nx
    · exact c_17 R N hb kb hi hn nx
    · exact c_18 R N hb kb hi hn nx
    · exact c_19 R N hb kb hi hn nx
    · exact c_20 R N hb kb hi hn nx
    · exact c_21 R N hb kb hi hn nx
    · exact c_22 R N hb kb hi hn nx
    · exact c_23 R N hb kb hi hn nx
    · exact c_24 R N hb kb hi hn nx
theorem neg6 : ∀ n, n < 6 → nI n - nI 6 < nI 0 := by decide +kernel
theorem law_cond {n i : Nat} (hn : n ≤ 3072) (hi : i ≤ 4000) : (nI n - nI 6 < nI i) = (n < i + 6) := by
  by_cases c : 6 ≤ n
  · rw [ar_sub c, ar_lt (by omega) (by omega)]
    exact propext ⟨fun h => by omega, fun h => by omega⟩
  · have h1 := neg6 n (by omega)
    refine propext ⟨fun _ => by omega, fun _ => ?_⟩
    rw [Int32.lt_iff_toInt_lt] at h1 ⊢
    rw [nI_toInt (by omega)] at h1 ⊢
    omega
theorem law_loop {base : Nat} (hb : b < X) (hn : n ≤ 3072) : ∀ (k i : Nat) (h : pm_H), n < i + 6 * k + 6 → i ≤ n + 6 → RELS h X → rK h b = (3, n) → rz h + 53 * k ≤ base + 600000 → rs h + 1000 * k ≤ 7302250 → pGo 185 18 [some (.ref b), some (.ref X), some (.ref (X + 115)), some (.int (nI i))] [] h (fun r => r.1 = some (.int 1) ∧ rz r.2 ≤ base + 600000 ∧ rs r.2 ≤ 7302250) := by
  intro k
  induction k with
  | zero =>
    intro i h a1 a2 r kb z s
    have c : n < i + 6 := by omega
    have e3 : 2 ≤ 3 ∧ 3 < 8 := by omega
    rw [k185_18]
    simp (disch := omega) only [k185_19, k185_20, k185_21, k185_23, k185_24, k185_876, k185_877, if_true, if_false, ite_true, ite_false, not_true_eq_false, not_false_eq_true, true_or, or_true, false_or, or_false, and_self, ok_n0, ok_ni, ok_nr, ok_nl, va_rf_some, va_rf_none, true_and, and_true, List.length_nil, List.length_cons, Option.toList_some, Option.toList_none, List.cons_append, List.nil_append, rK_uA, rK_uI, rK_uJ, rK_uP, rP_uA, rP_uI, rP_uJ, rJ_uA, rJ_uI, rJ_uP, rI_uJ, rI_uP, rz_uA, rz_uI, rz_uJ, rz_uP, rs_uA, rs_uI, rs_uJ, rs_uP, Nat.reduceAdd, Nat.reduceMul, Nat.reduceSub, Nat.reduceLeDiff, Nat.reduceLT, Nat.reduceEqDiff, Nat.add_zero, Nat.zero_add, Nat.zero_le, kb, law_cond, c]
    exact ⟨rfl, by omega, by omega⟩
  | succ k ih =>
    intro i h a1 a2 r kb z s
    rw [k185_18]
    by_cases c : n < i + 6
    · simp (disch := omega) only [k185_19, k185_20, k185_21, k185_23, k185_24, k185_876, k185_877, if_true, if_false, ite_true, ite_false, not_true_eq_false, not_false_eq_true, true_or, or_true, false_or, or_false, and_self, ok_n0, ok_ni, ok_nr, ok_nl, va_rf_some, va_rf_none, true_and, and_true, List.length_nil, List.length_cons, Option.toList_some, Option.toList_none, List.cons_append, List.nil_append, rK_uA, rK_uI, rK_uJ, rK_uP, rP_uA, rP_uI, rP_uJ, rJ_uA, rJ_uI, rJ_uP, rI_uJ, rI_uP, rz_uA, rz_uI, rz_uJ, rz_uP, rs_uA, rs_uI, rs_uJ, rs_uP, Nat.reduceAdd, Nat.reduceMul, Nat.reduceSub, Nat.reduceLeDiff, Nat.reduceLT, Nat.reduceEqDiff, Nat.add_zero, Nat.zero_add, Nat.zero_le, kb, law_cond, c]
      exact ⟨rfl, by omega, by omega⟩
    · simp (disch := omega) only [k185_19, k185_20, k185_21, k185_23, k185_24, if_true, if_false, ite_true, ite_false, not_true_eq_false, not_false_eq_true, true_or, or_true, false_or, or_false, and_self, ok_n0, ok_ni, ok_nr, ok_nl, va_rf_some, va_rf_none, true_and, and_true, List.length_nil, List.length_cons, Option.toList_some, Option.toList_none, List.cons_append, List.nil_append, rK_uA, rK_uI, rK_uJ, rK_uP, rP_uA, rP_uI, rP_uJ, rJ_uA, rJ_uI, rJ_uP, rI_uJ, rI_uP, rz_uA, rz_uI, rz_uJ, rz_uP, rs_uA, rs_uI, rs_uJ, rs_uP, Nat.reduceAdd, Nat.reduceMul, Nat.reduceSub, Nat.reduceLeDiff, Nat.reduceLT, Nat.reduceEqDiff, Nat.add_zero, Nat.zero_add, Nat.zero_le, kb, law_cond, c]
      obtain ⟨hd, un, V, wt, W, d, B, F, Sl, R, N⟩ := r
      refine law_step R N hb kb (by omega) hn (fun h2 r2 st => ?_)
      rw [k185_870]
      simp (disch := omega) only [k185_873, if_true, if_false, ite_true, ite_false, not_true_eq_false, not_false_eq_true, true_or, or_true, false_or, or_false, and_self, ok_n0, ok_ni, ok_nr, ok_nl, va_rf_some, va_rf_none, true_and, and_true, List.length_nil, List.length_cons, Option.toList_some, Option.toList_none, List.cons_append, List.nil_append, rK_uA, rK_uI, rK_uJ, rK_uP, rP_uA, rP_uI, rP_uJ, rJ_uA, rJ_uI, rJ_uP, rI_uJ, rI_uP, rz_uA, rz_uI, rz_uJ, rz_uP, rs_uA, rs_uI, rs_uJ, rs_uP, Nat.reduceAdd, Nat.reduceMul, Nat.reduceSub, Nat.reduceLeDiff, Nat.reduceLT, Nat.reduceEqDiff, Nat.add_zero, Nat.zero_add, Nat.zero_le, ar_add]
      obtain ⟨s1, s2, s3⟩ := st
      exact ih (i + 6) h2 (by omega) (by omega) r2 (by rw [(s1 b hb).1]; exact kb) (by omega) (by omega)
end LAW
theorem XK.cgs {h h' : pm_H} {X : Nat} (t : XK h X) (c : ∀ q, X ≤ q → q < X + 115 → rK h' q = rK h q ∧ rP h' q = rP h q) : XK h' X := by
  obtain ⟨k0, k1, k2, k3, k4, k5, k6, k7, k8, k9, k10⟩ := t
  have a0 := c X (by omega) (by omega)
  refine ⟨by rw [a0.1]; exact k0, by rw [a0.2]; exact k1, by rw [(c _ (by omega) (by omega)).1]; exact k2, by rw [(c (X + 107) (by omega) (by omega)).2]; exact k3, by rw [(c _ (by omega) (by omega)).1]; exact k4, by rw [a0.2]; exact k5, by rw [(c _ (by omega) (by omega)).1]; exact k6, fun j hj => by rw [(c (X + 109) (by omega) (by omega)).2]; exact k7 j hj, fun j hj => by rw [(c _ (by omega) (by omega)).1]; exact k8 j hj, by rw [a0.2]; exact k9, by rw [(c _ (by omega) (by omega)).1]; exact k10⟩
theorem pm_pure : pm_Pure := by
  intro b n xs base hb hn
  generalize hh : pm_h0 b n xs base = h
  have z0 : rz h = base := by rw [← hh]; rfl
  have s0 : rs h = 0 := by rw [← hh]; rfl
  have kb : rK h b = (3, n) := by
    rw [← hh]
    show (if b = b then (3, n) else (0, 0)) = (3, n)
    rw [if_pos rfl]
  obtain ⟨h1, x1, ⟨w1, w2, w3⟩, xk, p0, p1, i4, D1, K2, I7, P8⟩ := n_Pane h
  rw [z0] at x1 w1 w3 xk p0 p1 i4 D1 K2 I7 P8
  obtain ⟨h2, x2, ⟨y1, y2, y3⟩, mk, mk2, mi, mv⟩ := n_Model h1
  rw [w1] at x2 y1 y3 mk mk2 mi mv
  have sq : ∀ q, q < base + 115 → SQ h1 h2 q := fun q hq => y3 q hq
  have R : XR h2 base 0 0 (fun _ => iniV) 0 (fun _ => 0) (base + 1) (base + 54) 0 (fun _ => none) := by
    refine ⟨xk.cgs (fun q a b => ⟨(sq q (by omega)).1, (sq q (by omega)).2.2.2⟩), ⟨0, by rw [y1]⟩, by rw [(sq base (by omega)).2.2.2]; exact p0, by rw [(sq base (by omega)).2.2.2]; exact p1, by omega, by omega, by rw [(sq _ (by omega)).2.1]; exact I7 1, by rw [(sq _ (by omega)).2.1]; exact I7 2, by rw [(sq _ (by omega)).2.1]; exact I7 3, fun k hk => by rw [(sq _ (by omega)).2.2.2]; exact P8 k, Or.inl rfl, Or.inr (Or.inl rfl), K2.cgl (fun q a b => ⟨(sq q (by omega)).1, (sq q (by omega)).2.2.2⟩), by omega, fun k a hk ha => (by cases ha), fun k l a hk hl ha => (by cases ha), ⟨1, 0, _, _, _, _, _, _, _, ini_si, ini_ri, D1.cgl (by omega) (fun q a b => sq q (by omega))⟩, fun j hj => absurd hj (by omega), by omega, by rw [(sq base (by omega)).2.1]; exact i4, fun j c hj => absurd hj (by omega), fun j hj => absurd hj (by omega)⟩
  have N : MR h2 (base + 115) 0 0 (fun _ => iniV) 0 (fun _ => 0) := by
    refine ⟨mk, mk2, mi 1, mi 2, mi 3, by omega, fun j e h1 h2 => ?_, by omega, mi 5, fun k hk => absurd hk (by omega)⟩
    have : j = 0 := by omega
    subst this
    rw [Nat.mul_zero, Nat.zero_add]
    exact mv e
  have L := law_loop (b := b) (X := base) (n := n) (base := base) hb hn 512 0 h2 (by omega) (by omega) ⟨_, _, _, _, _, _, _, _, _, R, N⟩ (by rw [(sq b (by omega)).1, (w3 b hb).1]; exact kb) (by omega) (by omega)
  rw [k185_0]
  simp (disch := omega) only [k185_3, k185_4, k185_7, k185_8, k185_11, k185_12, k185_15, k185_16, k185_17, if_true, if_false, ite_true, ite_false, not_true_eq_false, not_false_eq_true, true_or, or_true, false_or, or_false, and_self, ok_n0, ok_ni, ok_nr, ok_nl, va_rf_some, va_rf_none, true_and, and_true, List.length_nil, List.length_cons, Option.toList_some, Option.toList_none, List.cons_append, List.nil_append, rK_uA, rK_uI, rK_uJ, rK_uP, rP_uA, rP_uI, rP_uJ, rJ_uA, rJ_uI, rJ_uP, rI_uJ, rI_uP, rz_uA, rz_uI, rz_uJ, rz_uP, rs_uA, rs_uI, rs_uJ, rs_uP, Nat.reduceAdd, Nat.reduceMul, Nat.reduceSub, Nat.reduceLeDiff, Nat.reduceLT, Nat.reduceEqDiff, Nat.add_zero, Nat.zero_add, Nat.zero_le, z0, x1, w1, x2]
  exact L
