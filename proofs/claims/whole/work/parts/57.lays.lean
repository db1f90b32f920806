/-! THE MODEL: lays -/
/-- only the model's scratch differs -/
def SCR (M : Nat) (h h' : pm_H) : Prop := rK h' = rK h ∧ rP h' = rP h ∧ rz h' = rz h ∧ rs h' = rs h ∧ rJ h' = rJ h ∧ (∀ b, b < M ∨ (M < b ∧ b < M + 4) ∨ M + 15 < b → rI h' b = rI h b) ∧ ∀ k, k ≠ 12 → k ≠ 13 → k ≠ 20 → rI h' M k = rI h M k
theorem SCR.rf (M : Nat) (h : pm_H) : SCR M h h := ⟨rfl, rfl, rfl, rfl, rfl, fun _ _ => rfl, fun _ _ _ _ => rfl⟩
theorem SCR.tr {M : Nat} {a b c : pm_H} (h1 : SCR M a b) (h2 : SCR M b c) : SCR M a c := by
  obtain ⟨a1, a2, a3, a4, a5, a6, a7⟩ := h1
  obtain ⟨b1, b2, b3, b4, b5, b6, b7⟩ := h2
  exact ⟨b1.trans a1, b2.trans a2, b3.trans a3, b4.trans a4, b5.trans a5, fun q hq => (b6 q hq).trans (a6 q hq), fun k k1 k2 k3 => (b7 k k1 k2 k3).trans (a7 k k1 k2 k3)⟩
theorem MK.scr {M : Nat} {h h' : pm_H} (t : MK h M) (e1 : rK h' = rK h) (e2 : rP h' = rP h) : MK h' M := by
  unfold MK at t ⊢
  rw [e1, e2]; exact t
theorem MK2.scr {M : Nat} {h h' : pm_H} (t : MK2 h M) (e1 : rK h' = rK h) (e2 : rP h' = rP h) : MK2 h' M := by
  unfold MK2 at t ⊢
  rw [e1, e2]; exact t
theorem MV.scr {M s : Nat} {h h' : pm_H} {v : Nat → Int32} (t : MV h M s v) (e : SCR M h h') : MV h' M s v := by
  obtain ⟨t1, t2, t3, t4⟩ := t
  obtain ⟨a1, a2, a3, a4, a5, a6, a7⟩ := e
  refine ⟨t1.scr a1 a2, ?_, t3, fun e => ?_⟩
  · rw [a7 3 (by decide) (by decide) (by decide)]; exact t2
  · rw [a6 (M + 1) (by omega)]; exact t4 e
/-- window k of row i; is it a float; how many tiles ahead of k -/
def wV (v : Nat → Int32) (i k : Nat) : Nat := (v (35 + 65 * i + 5 + k)).toNatClampNeg
def tz (v : Nat → Int32) (i : Nat) : Nat → Nat
  | 0 => 0
  | k + 1 => if v (620 + 6 * wV v i k + 1) = nI 1 then tz v i k else tz v i k + 1
theorem tz_le (v : Nat → Int32) (i : Nat) : ∀ k, tz v i k ≤ k := by
  intro k
  induction k with
  | zero => exact Nat.le_refl _
  | succ k ih => rw [tz]; split <;> omega
theorem tz_mono (v : Nat → Int32) (i : Nat) {j k : Nat} (h : j ≤ k) : tz v i j ≤ tz v i k := by
  induction h with
  | refl => exact Nat.le_refl _
  | step _ ih => rw [tz]; split <;> omega
/-- the tiles of row i as the model lists them, k windows looked at -/
def TLs (H : pm_H) (M : Nat) (v : Nat → Int32) (i k : Nat) : Prop := ∀ j, j < k → ¬ v (620 + 6 * wV v i j + 1) = nI 1 → rI H (M + 4) (tz v i j) = v (35 + 65 * i + 5 + j)
theorem s_lays_a {h : pm_H} {M s : Nat} {v : Nat → Int32} (t : MV h M s v) {i c : Nat} (hi : i < 9) (hc : v (35 + 65 * i + 3) = nI c) (hc2 : c ≤ 60) (hw : ∀ k, k < c → wV v i k < 60 ∧ v (35 + 65 * i + 5 + k) = nI (wV v i k)) (j : Int32) (Q : Option Value × pm_H → Prop) (hQ : ∀ H l5, SCR M h H → rI H M 12 = nI (tz v i c) → rI H M 13 = -1 → TLs H M v i c → ok_n l5 = True → pGo 166 92 [some (.ref M), some (.int (nI i)), some (.int j), some (.int (nI (s + (35 + 65 * i)))), some (.int (nI c)), l5, none, none, none, none, none, none] [] H Q) : ∀ (m k : Nat) (H : pm_H) (l5 : Option Value), k + m = c → ok_n l5 = True → SCR M h H → rI H M 12 = nI (tz v i k) → rI H M 13 = -1 → TLs H M v i k → pGo 166 19 [some (.ref M), some (.int (nI i)), some (.int j), some (.int (nI (s + (35 + 65 * i)))), some (.int (nI k)), l5, none, none, none, none, none, none] [] H Q := by
  intro m
  induction m with
  | zero =>
    intro k H l5 hk o5 hS hz ho hT
    have hk : k = c := by omega
    subst hk
    have tH := t.scr hS
    obtain ⟨t1, t2, t3, t4⟩ := id tH
    have c2 : s + (35 + 65 * i + 3) < 41160 := by omega
    rw [k166_19]
    simp (disch := omega) only [k166_0, k166_1, k166_2, k166_5, k166_6, k166_7, k166_8, k166_11, k166_12, k166_13, k166_16, k166_17, k166_21, k166_22, k166_25, k166_26, k166_27, k166_28, k166_29, k166_32, k166_33, k166_36, k166_37, k166_38, k166_39, k166_41, k166_42, k166_43, k166_45, k166_46, k166_49, k166_50, k166_52, k166_55, k166_56, k166_57, k166_58, k166_59, k166_62, k166_65, k166_66, k166_69, k166_70, k166_73, k166_75, k166_76, k166_77, k166_77i, k166_78, k166_81, k166_82, k166_83, k166_86, k166_89, k166_93, k166_96, k166_97, k166_98, k166_99, k166_100, k166_101, k166_102, k166_104, k166_105, k166_108, k166_110, k166_111, k166_113, k166_114, k166_117, k166_119, k166_120, k166_121, k166_122, k166_124, k166_125, k166_128, k166_130, k166_131, k166_132, k166_133, k166_135, k166_136, k166_139, k166_141, k166_142, k166_143, k166_144, k166_146, k166_147, k166_150, k166_151, k166_152, k166_153, k166_154, k166_156, k166_157, k166_160, k166_161, k166_162, k166_163, k166_164, k166_166, k166_167, k166_170, k166_171, k166_172, k166_208, k166_209, k166_211, k166_213, k166_215, k166_217, k166_219, k166_221, k166_224, k166_227, k166_228, k166_230, k166_232, k166_234, k166_236, k166_238, k166_240, k166_243, k166_244, k166_248, k166_249, k166_252, k166_255, k166_256, k166_258, k166_259, k166_262, k166_264, k166_265, k166_266, k166_269, k166_271, k166_272, k166_273, k166_276, k166_278, k166_279, k166_280, k166_283, k166_285, k166_286, k166_289, k166_292, k166_295, k166_298, k166_299, k166_300, k166_303, k166_304, k166_308, k166_309, k166_312, k166_315, k166_316, k166_318, k166_320, k166_322, k166_324, k166_326, k166_329, k166_330, k166_333, k166_335, k166_336, k166_337, k166_338, k166_341, k166_344, k166_345, k166_347, k166_350, k166_353, k166_356, k166_359, k166_360, k166_362, k166_364, k166_366, k166_368, k166_371, k166_374, k166_375, k166_377, k166_379, k166_381, k166_383, k166_386, k166_389, k166_390, k166_392, k166_394, k166_396, k166_398, k166_400, k166_402, k166_405, if_true, if_false, ite_true, ite_false, not_true_eq_false, not_false_eq_true, true_or, or_true, false_or, or_false, and_self, ok_n0, ok_ni, ok_nr, ok_nl, va_rf_some, va_rf_none, true_and, and_true, List.length_nil, List.length_cons, Option.toList_some, Option.toList_none, List.cons_append, List.nil_append, rK_uA, rK_uI, rK_uJ, rK_uP, rP_uA, rP_uI, rP_uJ, rJ_uA, rJ_uI, rJ_uP, rI_uJ, rI_uP, rz_uA, rz_uI, rz_uJ, rz_uP, rs_uA, rs_uI, rs_uJ, rs_uP, Nat.reduceAdd, Nat.reduceMul, Nat.reduceSub, Nat.reduceLeDiff, Nat.reduceLT, Nat.reduceEqDiff, Nat.add_zero, Nat.zero_add, Nat.zero_le, t1.1, t1.2.1, t1.2.2.1, ar_add, ar_oki, ar_cl, ar_le, Nat.add_assoc s, t4, hc, c2, Nat.le_refl]
    exact hQ H l5 hS hz ho hT o5
  | succ m ih =>
    intro k H l5 hk o5 hS hz ho hT
    have tH := t.scr hS
    obtain ⟨t1, t2, t3, t4⟩ := id tH
    obtain ⟨w1, w2⟩ := hw k (by omega)
    have c1 : ¬ c ≤ k := by omega
    have c2 : s + (35 + 65 * i + 3) < 41160 := by omega
    have c3 : s + (35 + 65 * i + 5 + k) < 41160 := by omega
    have c4 : s + (620 + 6 * wV v i k + 1) < 41160 := by omega
    have hzk := tz_le v i k
    have c5 : tz v i k < 60 := by omega
    have d4 : ¬ M = M + 4 := by omega
    have d5 : ¬ M + 4 = M := by omega
    obtain ⟨k0, k1, k2, k3, k4, k5, k6, k7, k8, -⟩ := id t1
    rw [k166_19]
    simp (disch := omega) only [k166_0, k166_1, k166_2, k166_5, k166_6, k166_7, k166_8, k166_11, k166_12, k166_13, k166_16, k166_17, k166_21, k166_22, k166_25, k166_26, k166_27, k166_28, k166_29, k166_32, k166_33, k166_36, k166_37, k166_38, k166_39, k166_41, k166_42, k166_43, k166_45, k166_46, k166_49, k166_50, k166_52, k166_55, k166_56, k166_57, k166_58, k166_59, k166_62, k166_65, k166_66, k166_69, k166_70, k166_73, k166_75, k166_76, k166_77, k166_77i, k166_78, k166_81, k166_82, k166_83, k166_86, k166_89, k166_93, k166_96, k166_97, k166_98, k166_99, k166_100, k166_101, k166_102, k166_104, k166_105, k166_108, k166_110, k166_111, k166_113, k166_114, k166_117, k166_119, k166_120, k166_121, k166_122, k166_124, k166_125, k166_128, k166_130, k166_131, k166_132, k166_133, k166_135, k166_136, k166_139, k166_141, k166_142, k166_143, k166_144, k166_146, k166_147, k166_150, k166_151, k166_152, k166_153, k166_154, k166_156, k166_157, k166_160, k166_161, k166_162, k166_163, k166_164, k166_166, k166_167, k166_170, k166_171, k166_172, k166_208, k166_209, k166_211, k166_213, k166_215, k166_217, k166_219, k166_221, k166_224, k166_227, k166_228, k166_230, k166_232, k166_234, k166_236, k166_238, k166_240, k166_243, k166_244, k166_248, k166_249, k166_252, k166_255, k166_256, k166_258, k166_259, k166_262, k166_264, k166_265, k166_266, k166_269, k166_271, k166_272, k166_273, k166_276, k166_278, k166_279, k166_280, k166_283, k166_285, k166_286, k166_289, k166_292, k166_295, k166_298, k166_299, k166_300, k166_303, k166_304, k166_308, k166_309, k166_312, k166_315, k166_316, k166_318, k166_320, k166_322, k166_324, k166_326, k166_329, k166_330, k166_333, k166_335, k166_336, k166_337, k166_338, k166_341, k166_344, k166_345, k166_347, k166_350, k166_353, k166_356, k166_359, k166_360, k166_362, k166_364, k166_366, k166_368, k166_371, k166_374, k166_375, k166_377, k166_379, k166_381, k166_383, k166_386, k166_389, k166_390, k166_392, k166_394, k166_396, k166_398, k166_400, k166_402, k166_405, s_seat tH, if_true, if_false, ite_true, ite_false, not_true_eq_false, not_false_eq_true, true_or, or_true, false_or, or_false, and_self, ok_n0, ok_ni, ok_nr, ok_nl, va_rf_some, va_rf_none, true_and, and_true, List.length_nil, List.length_cons, Option.toList_some, Option.toList_none, List.cons_append, List.nil_append, rK_uA, rK_uI, rK_uJ, rK_uP, rP_uA, rP_uI, rP_uJ, rJ_uA, rJ_uI, rJ_uP, rI_uJ, rI_uP, rz_uA, rz_uI, rz_uJ, rz_uP, rs_uA, rs_uI, rs_uJ, rs_uP, Nat.reduceAdd, Nat.reduceMul, Nat.reduceSub, Nat.reduceLeDiff, Nat.reduceLT, Nat.reduceEqDiff, Nat.add_zero, Nat.zero_add, Nat.zero_le, k0, k1, k2, k7, k8, ar_add, ar_oki, ar_okw, ar_cl, ar_le, Nat.add_assoc s, t4, hc, w2, hz, rI_uIn, c1, c2, c3, c4, c5, o5]
    by_cases hf : v (620 + 6 * wV v i k + 1) = nI 1
    · simp only [hf, if_true, if_false, ite_true, ite_false, not_true_eq_false, not_false_eq_true, true_or, or_true, false_or, or_false, and_self, ok_n0, ok_ni, ok_nr, ok_nl, va_rf_some, va_rf_none, true_and, and_true, List.length_nil, List.length_cons, Option.toList_some, Option.toList_none, List.cons_append, List.nil_append, rK_uA, rK_uI, rK_uJ, rK_uP, rP_uA, rP_uI, rP_uJ, rJ_uA, rJ_uI, rJ_uP, rI_uJ, rI_uP, rz_uA, rz_uI, rz_uJ, rz_uP, rs_uA, rs_uI, rs_uJ, rs_uP, Nat.reduceAdd, Nat.reduceMul, Nat.reduceSub, Nat.reduceLeDiff, Nat.reduceLT, Nat.reduceEqDiff, Nat.add_zero, Nat.zero_add, Nat.zero_le]
      refine ih (k + 1) H _ (by omega) (ok_ni _) hS ?_ ho ?_
      · rw [tz, if_pos hf]; exact hz
      · intro j' hj' hn
        by_cases hjk : j' = k
        · subst hjk; exact absurd hf hn
        · exact hT j' (by omega) hn
    · simp only [hf, if_true, if_false, ite_true, ite_false, not_true_eq_false, not_false_eq_true, true_or, or_true, false_or, or_false, and_self, ok_n0, ok_ni, ok_nr, ok_nl, va_rf_some, va_rf_none, true_and, and_true, List.length_nil, List.length_cons, Option.toList_some, Option.toList_none, List.cons_append, List.nil_append, rK_uA, rK_uI, rK_uJ, rK_uP, rP_uA, rP_uI, rP_uJ, rJ_uA, rJ_uI, rJ_uP, rI_uJ, rI_uP, rz_uA, rz_uI, rz_uJ, rz_uP, rs_uA, rs_uI, rs_uJ, rs_uP, Nat.reduceAdd, Nat.reduceMul, Nat.reduceSub, Nat.reduceLeDiff, Nat.reduceLT, Nat.reduceEqDiff, Nat.add_zero, Nat.zero_add, Nat.zero_le]
      refine ih (k + 1) _ _ (by omega) (ok_ni _) ?_ ?_ ?_ ?_
      · refine hS.tr ⟨rfl, rfl, rfl, rfl, rfl, fun b hb => ?_, fun q q1 q2 q3 => ?_⟩
        · rw [rI_uIn (by omega), rI_uIn (by omega)]
        · rw [rI_uIs, pk_un q1, rI_uIn (by omega)]
      · rw [rI_uIs, pk_us, tz, if_neg hf]
      · rw [rI_uIs, pk_un (by decide), rI_uIn (by omega)]; exact ho
      · intro j' hj' hn
        rw [rI_uIn (by omega), rI_uIs]
        by_cases hjk : j' = k
        · subst hjk; rw [pk_us]; exact w2.symm
        · have h1 : tz v i (j' + 1) ≤ tz v i k := tz_mono v i (by omega)
          rw [tz, if_neg hn] at h1
          rw [pk_un (by omega)]
          exact hT j' (by omega) hn
theorem SCR_HT (h : pm_H) (M : Nat) (A : T4) : SCR M h (HT h M A) := ⟨rfl, rfl, rfl, rfl, rfl, fun b hb => rI_HTo h M A (by omega), fun k _ _ _ => by rw [rI_HTM]⟩
theorem SCR_BS {H h0 : pm_H} {M P : Nat} {A : T4} {B : S6} (hB : BS H M h0 A B P) : SCR M h0 H := by
  obtain ⟨a1, a2, a3, a4, a5, b5, b6, b7, b8, b9, b10, b11, b12, b13, b14, b15, b16, b17⟩ := hB
  exact ⟨a1, a2, a4, a5, a3, fun b hb => b16 b (by omega), fun k _ _ h3 => b17 k h3⟩
theorem t4_HT (h : pm_H) (M : Nat) (A : T4) : t4 (HT h M A) M = A := by
  rw [t4, rI_HT5, rI_HT6, rI_HT7, rI_HT8]
/-- WIDE: the four rows turned, up to k -/
def swT (A : T4) (k : Nat) : T4 := (fun j => if j < k then A.2.1 j else A.1 j, fun j => if j < k then A.1 j else A.2.1 j, fun j => if j < k then A.2.2.2 j else A.2.2.1 j, fun j => if j < k then A.2.2.1 j else A.2.2.2 j)
theorem swT_s (A : T4) (k : Nat) : putT (swT A k) k (A.2.1 k) (A.1 k) (A.2.2.2 k) (A.2.2.1 k) = swT A (k + 1) := by
  have e : ∀ (f g : Nat → Int32), upd (fun j => if j < k then f j else g j) k (f k) = fun j => if j < k + 1 then f j else g j := by
    intro f g
    funext j
    simp only [upd]
    by_cases h1 : j = k
    · subst h1; simp
    · by_cases h2 : j < k
      · simp [h1, h2, show j < k + 1 by omega]
      · simp [h1, h2, show ¬ j < k + 1 by omega]
  simp only [putT, swT, e]
theorem s_lays_w {h : pm_H} {M N : Nat} (t : MK h M) (hN : rI h M 12 = nI N) (hN2 : N ≤ 60) (A : T4) {a1 a2 a3 a4 a5 a6 a7 a8 a9 a10 : Option Value} (Q : Option Value × pm_H → Prop) (o : ok_n a10 = True) : ∀ (m k : Nat), k + m = N → pGo 166 246 [some (.ref M), a1, a2, a3, a4, a5, a6, a7, a8, a9, a10, some (.int (nI k))] [] (HT h M (swT A k)) Q = Q (none, HT h M (swT A N)) := by
  obtain ⟨k0, k1, k2, k3, k4, k5, k6, k7, k8, k9, k10, k11, k12, k13, k14, k15, k16⟩ := id t
  intro m
  induction m with
  | zero =>
    intro k hk
    have hk : k = N := by omega
    subst hk
    rw [k166_246]
    simp (disch := omega) only [k166_0, k166_1, k166_2, k166_5, k166_6, k166_7, k166_8, k166_11, k166_12, k166_13, k166_16, k166_17, k166_21, k166_22, k166_25, k166_26, k166_27, k166_28, k166_29, k166_32, k166_33, k166_36, k166_37, k166_38, k166_39, k166_41, k166_42, k166_43, k166_45, k166_46, k166_49, k166_50, k166_52, k166_55, k166_56, k166_57, k166_58, k166_59, k166_62, k166_65, k166_66, k166_69, k166_70, k166_73, k166_75, k166_76, k166_77, k166_77i, k166_78, k166_81, k166_82, k166_83, k166_86, k166_89, k166_92, k166_93, k166_96, k166_97, k166_98, k166_99, k166_100, k166_101, k166_102, k166_104, k166_105, k166_108, k166_110, k166_111, k166_113, k166_114, k166_117, k166_119, k166_120, k166_121, k166_122, k166_124, k166_125, k166_128, k166_130, k166_131, k166_132, k166_133, k166_135, k166_136, k166_139, k166_141, k166_142, k166_143, k166_144, k166_146, k166_147, k166_150, k166_151, k166_152, k166_153, k166_154, k166_156, k166_157, k166_160, k166_161, k166_162, k166_163, k166_164, k166_166, k166_167, k166_170, k166_171, k166_172, k166_208, k166_209, k166_211, k166_213, k166_215, k166_217, k166_219, k166_221, k166_224, k166_227, k166_228, k166_230, k166_232, k166_234, k166_236, k166_238, k166_240, k166_243, k166_244, k166_248, k166_249, k166_252, k166_255, k166_256, k166_258, k166_259, k166_262, k166_264, k166_265, k166_266, k166_269, k166_271, k166_272, k166_273, k166_276, k166_278, k166_279, k166_280, k166_283, k166_285, k166_286, k166_289, k166_292, k166_295, k166_298, k166_299, k166_300, k166_303, k166_304, k166_308, k166_309, k166_312, k166_315, k166_316, k166_318, k166_320, k166_322, k166_324, k166_326, k166_329, k166_330, k166_333, k166_335, k166_336, k166_337, k166_338, k166_341, k166_344, k166_345, k166_347, k166_350, k166_353, k166_356, k166_359, k166_360, k166_362, k166_364, k166_366, k166_368, k166_371, k166_374, k166_375, k166_377, k166_379, k166_381, k166_383, k166_386, k166_389, k166_390, k166_392, k166_394, k166_396, k166_398, k166_400, k166_402, k166_405, if_true, if_false, ite_true, ite_false, not_true_eq_false, not_false_eq_true, true_or, or_true, false_or, or_false, and_self, ok_n0, ok_ni, ok_nr, ok_nl, va_rf_some, va_rf_none, true_and, and_true, List.length_nil, List.length_cons, Option.toList_some, Option.toList_none, List.cons_append, List.nil_append, rK_uA, rK_uI, rK_uJ, rK_uP, rP_uA, rP_uI, rP_uJ, rJ_uA, rJ_uI, rJ_uP, rI_uJ, rI_uP, rz_uA, rz_uI, rz_uJ, rz_uP, rs_uA, rs_uI, rs_uJ, rs_uP, Nat.reduceAdd, Nat.reduceMul, Nat.reduceSub, Nat.reduceLeDiff, Nat.reduceLT, Nat.reduceEqDiff, Nat.add_zero, Nat.zero_add, Nat.zero_le, rK_HT, rI_HTM, k0, hN, ar_le, Nat.le_refl]
  | succ m ih =>
    intro k hk
    have c1 : ¬ N ≤ k := by omega
    have c2 : k < 60 := by omega
    have e1 : (swT A k).1 k = A.1 k := by simp [swT]
    have e2 : (swT A k).2.1 k = A.2.1 k := by simp [swT]
    have e3 : (swT A k).2.2.1 k = A.2.2.1 k := by simp [swT]
    have e4 : (swT A k).2.2.2 k = A.2.2.2 k := by simp [swT]
    rw [k166_246]
    simp (disch := omega) only [k166_0, k166_1, k166_2, k166_5, k166_6, k166_7, k166_8, k166_11, k166_12, k166_13, k166_16, k166_17, k166_21, k166_22, k166_25, k166_26, k166_27, k166_28, k166_29, k166_32, k166_33, k166_36, k166_37, k166_38, k166_39, k166_41, k166_42, k166_43, k166_45, k166_46, k166_49, k166_50, k166_52, k166_55, k166_56, k166_57, k166_58, k166_59, k166_62, k166_65, k166_66, k166_69, k166_70, k166_73, k166_75, k166_76, k166_77, k166_77i, k166_78, k166_81, k166_82, k166_83, k166_86, k166_89, k166_92, k166_93, k166_96, k166_97, k166_98, k166_99, k166_100, k166_101, k166_102, k166_104, k166_105, k166_108, k166_110, k166_111, k166_113, k166_114, k166_117, k166_119, k166_120, k166_121, k166_122, k166_124, k166_125, k166_128, k166_130, k166_131, k166_132, k166_133, k166_135, k166_136, k166_139, k166_141, k166_142, k166_143, k166_144, k166_146, k166_147, k166_150, k166_151, k166_152, k166_153, k166_154, k166_156, k166_157, k166_160, k166_161, k166_162, k166_163, k166_164, k166_166, k166_167, k166_170, k166_171, k166_172, k166_208, k166_209, k166_211, k166_213, k166_215, k166_217, k166_219, k166_221, k166_224, k166_227, k166_228, k166_230, k166_232, k166_234, k166_236, k166_238, k166_240, k166_243, k166_244, k166_248, k166_249, k166_252, k166_255, k166_256, k166_258, k166_259, k166_262, k166_264, k166_265, k166_266, k166_269, k166_271, k166_272, k166_273, k166_276, k166_278, k166_279, k166_280, k166_283, k166_285, k166_286, k166_289, k166_292, k166_295, k166_298, k166_299, k166_300, k166_303, k166_304, k166_308, k166_309, k166_312, k166_315, k166_316, k166_318, k166_320, k166_322, k166_324, k166_326, k166_329, k166_330, k166_333, k166_335, k166_336, k166_337, k166_338, k166_341, k166_344, k166_345, k166_347, k166_350, k166_353, k166_356, k166_359, k166_360, k166_362, k166_364, k166_366, k166_368, k166_371, k166_374, k166_375, k166_377, k166_379, k166_381, k166_383, k166_386, k166_389, k166_390, k166_392, k166_394, k166_396, k166_398, k166_400, k166_402, k166_405, s_mput t c2, if_true, if_false, ite_true, ite_false, not_true_eq_false, not_false_eq_true, true_or, or_true, false_or, or_false, and_self, ok_n0, ok_ni, ok_nr, ok_nl, va_rf_some, va_rf_none, true_and, and_true, List.length_nil, List.length_cons, Option.toList_some, Option.toList_none, List.cons_append, List.nil_append, rK_uA, rK_uI, rK_uJ, rK_uP, rP_uA, rP_uI, rP_uJ, rJ_uA, rJ_uI, rJ_uP, rI_uJ, rI_uP, rz_uA, rz_uI, rz_uJ, rz_uP, rs_uA, rs_uI, rs_uJ, rs_uP, Nat.reduceAdd, Nat.reduceMul, Nat.reduceSub, Nat.reduceLeDiff, Nat.reduceLT, Nat.reduceEqDiff, Nat.add_zero, Nat.zero_add, Nat.zero_le, rK_HT, rP_HT, rI_HTM, rI_HT5, rI_HT6, rI_HT7, rI_HT8, k0, k9, k10, k11, k12, k13, k14, k15, k16, hN, ar_le, ar_oki, ar_cl, ar_add, c1, c2, e1, e2, e3, e4, swT_s, o]
    exact ih (k + 1) (by omega)
/-- FULL: all tiles have the box; the last one in focus is told -/
def fuT (A : T4) (x y w hh : Int32) (k : Nat) : T4 := (ovr A.1 0 k (fun _ => x), ovr A.2.1 0 k (fun _ => y), ovr A.2.2.1 0 k (fun _ => w), ovr A.2.2.2 0 k (fun _ => hh))
theorem fuT_s (A : T4) (x y w hh : Int32) (k : Nat) : putT (fuT A x y w hh k) k x y w hh = fuT A x y w hh (k + 1) := by
  have e : ∀ (a : Nat → Int32) (z : Int32), upd (ovr a 0 k (fun _ => z)) k z = ovr a 0 (k + 1) (fun _ => z) := fun a z => by
    have := ovr_s a 0 k (fun _ => z) (x := z) rfl
    rw [Nat.zero_add] at this
    exact this
  simp only [putT, fuT, e]
theorem s_lays_f {h : pm_H} {M s N i : Nat} {v : Nat → Int32} (t : MV h M s v) (hi : i < 9) (hf : v (35 + 65 * i + 4) = -1 ∨ ∃ f, f < 60 ∧ v (35 + 65 * i + 4) = nI f) (hN2 : N ≤ 60) (A : T4) {x y w hh : Int32} {a2 a3 a4 a9 a10 : Option Value} (o : ok_n a10 = True) (Q : Option Value × pm_H → Prop) (hQ : ∀ H, SCR M h H → rI H M 12 = nI N → rI H (M + 4) = rI h (M + 4) → t4 H M = fuT A x y w hh N → rI H M 13 = llast (rI h (M + 4)) (focV v i) N 0 (nI 0) → Q (none, H)) : ∀ (m k : Nat) (H : pm_H) (r : Int32), k + m = N → SCR M h H → rI H M 12 = nI N → rI H (M + 4) = rI h (M + 4) → t4 H M = fuT A x y w hh k → rI H M 13 = r → llast (rI h (M + 4)) (focV v i) m k r = llast (rI h (M + 4)) (focV v i) N 0 (nI 0) → pGo 166 306 [some (.ref M), some (.int (nI i)), a2, a3, a4, some (.int x), some (.int y), some (.int w), some (.int hh), a9, a10, some (.int (nI k))] [] H Q := by
  intro m
  induction m with
  | zero =>
    intro k H r hk hS hN hT hA hr hl
    have hk : k = N := by omega
    subst hk
    obtain ⟨t1, -⟩ := t.scr hS
    rw [k166_306]
    simp (disch := omega) only [k166_0, k166_1, k166_2, k166_5, k166_6, k166_7, k166_8, k166_11, k166_12, k166_13, k166_16, k166_17, k166_21, k166_22, k166_25, k166_26, k166_27, k166_28, k166_29, k166_32, k166_33, k166_36, k166_37, k166_38, k166_39, k166_41, k166_42, k166_43, k166_45, k166_46, k166_49, k166_50, k166_52, k166_55, k166_56, k166_57, k166_58, k166_59, k166_62, k166_65, k166_66, k166_69, k166_70, k166_73, k166_75, k166_76, k166_77, k166_77i, k166_78, k166_81, k166_82, k166_83, k166_86, k166_89, k166_92, k166_93, k166_96, k166_97, k166_98, k166_99, k166_100, k166_101, k166_102, k166_104, k166_105, k166_108, k166_110, k166_111, k166_113, k166_114, k166_117, k166_119, k166_120, k166_121, k166_122, k166_124, k166_125, k166_128, k166_130, k166_131, k166_132, k166_133, k166_135, k166_136, k166_139, k166_141, k166_142, k166_143, k166_144, k166_146, k166_147, k166_150, k166_151, k166_152, k166_153, k166_154, k166_156, k166_157, k166_160, k166_161, k166_162, k166_163, k166_164, k166_166, k166_167, k166_170, k166_171, k166_172, k166_208, k166_209, k166_211, k166_213, k166_215, k166_217, k166_219, k166_221, k166_224, k166_227, k166_228, k166_230, k166_232, k166_234, k166_236, k166_238, k166_240, k166_243, k166_244, k166_248, k166_249, k166_252, k166_255, k166_256, k166_258, k166_259, k166_262, k166_264, k166_265, k166_266, k166_269, k166_271, k166_272, k166_273, k166_276, k166_278, k166_279, k166_280, k166_283, k166_285, k166_286, k166_289, k166_292, k166_295, k166_298, k166_299, k166_300, k166_303, k166_304, k166_308, k166_309, k166_312, k166_315, k166_316, k166_318, k166_320, k166_322, k166_324, k166_326, k166_329, k166_330, k166_333, k166_335, k166_336, k166_337, k166_338, k166_341, k166_344, k166_345, k166_347, k166_350, k166_353, k166_356, k166_359, k166_360, k166_362, k166_364, k166_366, k166_368, k166_371, k166_374, k166_375, k166_377, k166_379, k166_381, k166_383, k166_386, k166_389, k166_390, k166_392, k166_394, k166_396, k166_398, k166_400, k166_402, k166_405, if_true, if_false, ite_true, ite_false, not_true_eq_false, not_false_eq_true, true_or, or_true, false_or, or_false, and_self, ok_n0, ok_ni, ok_nr, ok_nl, va_rf_some, va_rf_none, true_and, and_true, List.length_nil, List.length_cons, Option.toList_some, Option.toList_none, List.cons_append, List.nil_append, rK_uA, rK_uI, rK_uJ, rK_uP, rP_uA, rP_uI, rP_uJ, rJ_uA, rJ_uI, rJ_uP, rI_uJ, rI_uP, rz_uA, rz_uI, rz_uJ, rz_uP, rs_uA, rs_uI, rs_uJ, rs_uP, Nat.reduceAdd, Nat.reduceMul, Nat.reduceSub, Nat.reduceLeDiff, Nat.reduceLT, Nat.reduceEqDiff, Nat.add_zero, Nat.zero_add, Nat.zero_le, t1.1, hN, ar_le, Nat.le_refl]
    refine hQ H hS hN hT hA ?_
    rw [hr, ← hl]; rfl
  | succ m ih =>
    intro k H r hk hS hN hT hA hr hl
    have tH := t.scr hS
    obtain ⟨t1, t2, t3, t4'⟩ := id tH
    obtain ⟨k0, k1, k2, k3, k4, k5, k6, k7, k8, -⟩ := id t1
    have c1 : ¬ N ≤ k := by omega
    have c2 : k < 60 := by omega
    have lp := s_mput t1 c2 (t4 H M) x y w hh
    rw [HT_self] at lp
    have hS1 : SCR M h (HT H M (putT (t4 H M) k x y w hh)) := hS.tr (SCR_HT _ _ _)
    have tH1 := t.scr hS1
    have e4 : rI (HT H M (putT (t4 H M) k x y w hh)) (M + 4) = rI h (M + 4) := by rw [rI_HTo _ _ _ (by omega)]; exact hT
    have eA : t4 (HT H M (putT (t4 H M) k x y w hh)) M = fuT A x y w hh (k + 1) := by rw [t4_HT, hA, fuT_s]
    rw [k166_306]
    simp (disch := omega) only [k166_0, k166_1, k166_2, k166_5, k166_6, k166_7, k166_8, k166_11, k166_12, k166_13, k166_16, k166_17, k166_21, k166_22, k166_25, k166_26, k166_27, k166_28, k166_29, k166_32, k166_33, k166_36, k166_37, k166_38, k166_39, k166_41, k166_42, k166_43, k166_45, k166_46, k166_49, k166_50, k166_52, k166_55, k166_56, k166_57, k166_58, k166_59, k166_62, k166_65, k166_66, k166_69, k166_70, k166_73, k166_75, k166_76, k166_77, k166_77i, k166_78, k166_81, k166_82, k166_83, k166_86, k166_89, k166_92, k166_93, k166_96, k166_97, k166_98, k166_99, k166_100, k166_101, k166_102, k166_104, k166_105, k166_108, k166_110, k166_111, k166_113, k166_114, k166_117, k166_119, k166_120, k166_121, k166_122, k166_124, k166_125, k166_128, k166_130, k166_131, k166_132, k166_133, k166_135, k166_136, k166_139, k166_141, k166_142, k166_143, k166_144, k166_146, k166_147, k166_150, k166_151, k166_152, k166_153, k166_154, k166_156, k166_157, k166_160, k166_161, k166_162, k166_163, k166_164, k166_166, k166_167, k166_170, k166_171, k166_172, k166_208, k166_209, k166_211, k166_213, k166_215, k166_217, k166_219, k166_221, k166_224, k166_227, k166_228, k166_230, k166_232, k166_234, k166_236, k166_238, k166_240, k166_243, k166_244, k166_248, k166_249, k166_252, k166_255, k166_256, k166_258, k166_259, k166_262, k166_264, k166_265, k166_266, k166_269, k166_271, k166_272, k166_273, k166_276, k166_278, k166_279, k166_280, k166_283, k166_285, k166_286, k166_289, k166_292, k166_295, k166_298, k166_299, k166_300, k166_303, k166_304, k166_308, k166_309, k166_312, k166_315, k166_316, k166_318, k166_320, k166_322, k166_324, k166_326, k166_329, k166_330, k166_333, k166_335, k166_336, k166_337, k166_338, k166_341, k166_344, k166_345, k166_347, k166_350, k166_353, k166_356, k166_359, k166_360, k166_362, k166_364, k166_366, k166_368, k166_371, k166_374, k166_375, k166_377, k166_379, k166_381, k166_383, k166_386, k166_389, k166_390, k166_392, k166_394, k166_396, k166_398, k166_400, k166_402, k166_405, lp, s_focusOf tH1 hi hf, if_true, if_false, ite_true, ite_false, not_true_eq_false, not_false_eq_true, true_or, or_true, false_or, or_false, and_self, ok_n0, ok_ni, ok_nr, ok_nl, va_rf_some, va_rf_none, true_and, and_true, List.length_nil, List.length_cons, Option.toList_some, Option.toList_none, List.cons_append, List.nil_append, rK_uA, rK_uI, rK_uJ, rK_uP, rP_uA, rP_uI, rP_uJ, rJ_uA, rJ_uI, rJ_uP, rI_uJ, rI_uP, rz_uA, rz_uI, rz_uJ, rz_uP, rs_uA, rs_uI, rs_uJ, rs_uP, Nat.reduceAdd, Nat.reduceMul, Nat.reduceSub, Nat.reduceLeDiff, Nat.reduceLT, Nat.reduceEqDiff, Nat.add_zero, Nat.zero_add, Nat.zero_le, rK_HT, rP_HT, k0, k7, k8, hN, e4, ar_le, ar_oki, ar_cl, ar_add, c1, c2, o]
    rw [llast] at hl
    by_cases hx : rI h (M + 4) k = focV v i
    · rw [if_pos hx] at hl
      simp only [hx, if_true, if_false, ite_true, ite_false, not_true_eq_false, not_false_eq_true, true_or, or_true, false_or, or_false, and_self, ok_n0, ok_ni, ok_nr, ok_nl, va_rf_some, va_rf_none, true_and, and_true, List.length_nil, List.length_cons, Option.toList_some, Option.toList_none, List.cons_append, List.nil_append, rK_uA, rK_uI, rK_uJ, rK_uP, rP_uA, rP_uI, rP_uJ, rJ_uA, rJ_uI, rJ_uP, rI_uJ, rI_uP, rz_uA, rz_uI, rz_uJ, rz_uP, rs_uA, rs_uI, rs_uJ, rs_uP, Nat.reduceAdd, Nat.reduceMul, Nat.reduceSub, Nat.reduceLeDiff, Nat.reduceLT, Nat.reduceEqDiff, Nat.add_zero, Nat.zero_add, Nat.zero_le, uI_HTM]
      have hS2 : SCR M h (HT (uI H M 13 (nI k)) M (putT (t4 H M) k x y w hh)) := by
        refine hS.tr ⟨rfl, rfl, rfl, rfl, rfl, fun b hb => ?_, fun q q1 q2 q3 => ?_⟩
        · rw [rI_HTo _ _ _ (by omega), rI_uIn (by omega)]
        · rw [rI_HTM, rI_uIs, pk_un q2]
      refine ih (k + 1) _ (nI k) (by omega) hS2 ?_ ?_ ?_ ?_ hl
      · rw [rI_HTM, rI_uIs, pk_un (by decide)]; exact hN
      · rw [rI_HTo _ _ _ (by omega), rI_uIn (by omega)]; exact hT
      · rw [t4_HT, hA, fuT_s]
      · rw [rI_HTM, rI_uIs, pk_us]
    · rw [if_neg hx] at hl
      simp only [hx, if_true, if_false, ite_true, ite_false, not_true_eq_false, not_false_eq_true, true_or, or_true, false_or, or_false, and_self, ok_n0, ok_ni, ok_nr, ok_nl, va_rf_some, va_rf_none, true_and, and_true, List.length_nil, List.length_cons, Option.toList_some, Option.toList_none, List.cons_append, List.nil_append, rK_uA, rK_uI, rK_uJ, rK_uP, rP_uA, rP_uI, rP_uJ, rJ_uA, rJ_uI, rJ_uP, rI_uJ, rI_uP, rz_uA, rz_uI, rz_uJ, rz_uP, rs_uA, rs_uI, rs_uJ, rs_uP, Nat.reduceAdd, Nat.reduceMul, Nat.reduceSub, Nat.reduceLeDiff, Nat.reduceLT, Nat.reduceEqDiff, Nat.add_zero, Nat.zero_add, Nat.zero_le]
      refine ih (k + 1) _ r (by omega) hS1 ?_ e4 eA ?_ hl
      · rw [rI_HTM]; exact hN
      · rw [rI_HTM]; exact hr
