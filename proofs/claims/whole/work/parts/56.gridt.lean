theorem isT_grid_keep {A : T4} {N c : Nat} {x y w hh : Int32} {t i : Nat} {G : Nat → Int32} (hc : 1 ≤ c) (ht : t < (i + 1) * N / c) (h0 : isT (grT A N c x y w hh (i + 1)) t G) : ∀ j, i + 1 ≤ j → isT (grT A N c x y w hh j) t G := by
  intro j hj
  induction hj with
  | refl => exact h0
  | @step j hj ih =>
    rw [grT]
    refine isT_sto ih (Or.inl ?_)
    have : (i + 1) * N / c ≤ j * N / c := Nat.div_le_div_right (Nat.mul_le_mul_right N hj)
    omega
theorem isT_gridL {A : T4} {N c W H : Nat} {g : Nat → Int32} {t : Nat} (hc1 : 1 ≤ c) (hc2 : c ≤ 60) (hN : N ≤ 60) (hw : g 2 = nI W) (hW : W ≤ 10000) (hg : g 3 = nI H) (hH : H ≤ 10000) (ht : t < N) : ∀ (m i : Nat), i + m = c → i * N / c ≤ t → isT (grT A N c (g 0) (g 1) (g 2) (g 3) c) t (gridL g t N c m i) := by
  intro m
  induction m with
  | zero =>
    intro i hi hit
    have : i = c := by omega
    subst this
    rw [Nat.mul_div_cancel_left N (by omega)] at hit
    omega
  | succ m ih =>
    intro i hi hit
    rw [gridL]
    by_cases c1 : t < (i + 1) * N / c
    · rw [if_pos ⟨hit, c1⟩]
      refine isT_grid_keep hc1 c1 ?_ c (by omega)
      rw [grT]
      obtain ⟨e1, e0, e3, e2⟩ := lnu_t (k := i) (m := c) g hw hW hc2 (by omega)
      have b : (i + 1) * N / c ≤ N := Nat.div_le_of_le_mul (Nat.mul_le_mul_right N (by omega))
      have := isT_st (A := grT A N c (g 0) (g 1) (g 2) (g 3) i) (f := i * N / c) (m := (i + 1) * N / c - i * N / c) (t := t - i * N / c) (g := lnu g (nI i) (nI c)) (by rw [e3]; exact hg) hH (Nat.le_trans (Nat.sub_le _ _) (Nat.le_trans b hN)) (by omega)
      rw [show i * N / c + (t - i * N / c) = t by omega, e0, e1, e2, e3] at this
      exact this
    · rw [if_neg (fun q => c1 q.2)]
      exact ih (i + 1) (by omega) (by omega)
theorem isT_grid {A : T4} {N W H : Nat} {g : Nat → Int32} {t : Nat} (hN : N ≤ 60) (hw : g 2 = nI W) (hW : W ≤ 10000) (hg : g 3 = nI H) (hH : H ≤ 10000) (ht : t < N) : isT (grT A N (gcol N 60 1) (g 0) (g 1) (g 2) (g 3) (gcol N 60 1)) t (gridB g t N) := by
  obtain ⟨p1, p2⟩ := gcol_pos N 60 1 (by decide) (by decide)
  exact isT_gridL p1 p2 hN hw hW hg hH ht _ 0 (by omega) (by simp)
/-- halving, from its entry -/
theorem s_balance {H : pm_H} {M N : Nat} (t : MK H M) (t2 : MK2 H M) (hNH : rI H M 12 = nI N) (hN2 : N ≤ 60) (g : Nat → Int32) (Q : Option Value × pm_H → Prop) (hQ : ∀ H' A B, BS H' M H A B 0 → (∀ t, t < N → isT A t (balB 60 g t N)) → Q (none, H')) : pGo 164 0 [some (.ref M), some (.int (g 0)), some (.int (g 1)), some (.int (g 2)), some (.int (g 3)), none, none, none, none, none, none, none, none] [] H Q := by
  obtain ⟨k0, -⟩ := id t
  have hB' : BS (uI H M 20 (nI 0)) M H (t4 H M) (rI H (M + 9), rI H (M + 10), rI H (M + 11), rI H (M + 12), rI H (M + 13), rI H (M + 14)) 0 := by
    refine ⟨rfl, rfl, rfl, rfl, rfl, ?_, ?_, ?_, ?_, ?_, ?_, ?_, ?_, ?_, ?_, ?_, ?_, ?_⟩
    · rw [rI_uI, if_neg (by omega)]; rfl
    · rw [rI_uI, if_neg (by omega)]; rfl
    · rw [rI_uI, if_neg (by omega)]; rfl
    · rw [rI_uI, if_neg (by omega)]; rfl
    · rw [rI_uI, if_neg (by omega)]
    · rw [rI_uI, if_neg (by omega)]
    · rw [rI_uI, if_neg (by omega)]
    · rw [rI_uI, if_neg (by omega)]
    · rw [rI_uI, if_neg (by omega)]
    · rw [rI_uI, if_neg (by omega)]
    · rw [rI_uI, if_pos rfl, pk_us]
    · intro b hb; rw [rI_uI, if_neg (by omega)]
    · intro j hj; rw [rI_uI, if_pos rfl, pk_un hj]
  rw [k164_0]
  simp (disch := omega) only [k164_1, k164_2, k164_5, k164_6, k164_9, k164_12, k164_13, k164_14, k164_15, k164_18, k164_19, k164_20, k164_21, k164_23, k164_27, k164_30, k164_33, k164_34, k164_34i, k164_35, k164_38, k164_39, k164_40, k164_43, k164_44, k164_47, k164_48, k164_51, k164_52, k164_54, k164_55, k164_58, k164_59, k164_62, k164_63, k164_65, k164_66, k164_69, k164_70, k164_73, k164_74, k164_76, k164_77, k164_80, k164_81, k164_84, k164_85, k164_87, k164_88, k164_91, k164_92, k164_95, k164_96, k164_98, k164_99, k164_102, k164_103, k164_106, k164_107, k164_109, k164_111, k164_112, k164_113, k164_114, k164_115, k164_117, k164_119, k164_120, k164_123, k164_124, k164_126, k164_128, k164_130, k164_132, k164_134, k164_137, k164_140, k164_142, k164_144, k164_147, k164_149, k164_151, k164_152, k164_154, k164_155, k164_157, k164_158, k164_160, k164_162, k164_164, k164_166, k164_168, k164_170, k164_173, k164_174, k164_176, k164_178, k164_179, k164_181, k164_183, k164_184, k164_186, k164_188, k164_189, k164_191, k164_193, k164_195, k164_196, k164_198, k164_201, k164_204, k164_206, k164_208, k164_209, k164_211, k164_212, k164_214, k164_215, k164_217, k164_219, k164_221, k164_223, k164_225, k164_227, k164_230, k164_231, k164_233, k164_235, k164_236, k164_238, k164_240, k164_241, k164_243, k164_245, k164_247, k164_248, k164_250, k164_252, k164_254, k164_255, k164_258, k164_261, if_true, if_false, ite_true, ite_false, not_true_eq_false, not_false_eq_true, true_or, or_true, false_or, or_false, and_self, ok_n0, ok_ni, ok_nr, ok_nl, va_rf_some, va_rf_none, true_and, and_true, List.length_nil, List.length_cons, Option.toList_some, Option.toList_none, List.cons_append, List.nil_append, rK_uA, rK_uI, rK_uJ, rK_uP, rP_uA, rP_uI, rP_uJ, rJ_uA, rJ_uI, rJ_uP, rI_uJ, rI_uP, rz_uA, rz_uI, rz_uJ, rz_uP, rs_uA, rs_uI, rs_uJ, rs_uP, Nat.reduceAdd, Nat.reduceMul, Nat.reduceSub, Nat.reduceLeDiff, Nat.reduceLT, Nat.reduceEqDiff, Nat.add_zero, Nat.zero_add, Nat.zero_le, k0, rI_uIs, upd_at, hNH, ar_le]
  by_cases c1 : N ≤ 0
  · simp only [c1, if_true, if_false, ite_true, ite_false, not_true_eq_false, not_false_eq_true, true_or, or_true, false_or, or_false, and_self, ok_n0, ok_ni, ok_nr, ok_nl, va_rf_some, va_rf_none, true_and, and_true, List.length_nil, List.length_cons, Option.toList_some, Option.toList_none, List.cons_append, List.nil_append, rK_uA, rK_uI, rK_uJ, rK_uP, rP_uA, rP_uI, rP_uJ, rJ_uA, rJ_uI, rJ_uP, rI_uJ, rI_uP, rz_uA, rz_uI, rz_uJ, rz_uP, rs_uA, rs_uI, rs_uJ, rs_uP, Nat.reduceAdd, Nat.reduceMul, Nat.reduceSub, Nat.reduceLeDiff, Nat.reduceLT, Nat.reduceEqDiff, Nat.add_zero, Nat.zero_add, Nat.zero_le]
    refine s_balance_loop (N := N) (R := fun t => balB 60 g t N) t t2 hN2 _ _ _ _ Q hQ 1 _ _ _ 0 0 _ _ _ _ _ _ _ _ ok_n0 ok_n0 ok_n0 ok_n0 ok_n0 ok_n0 ok_n0 (by omega) (by omega) hB' rfl (fun t h1 h2 => by omega)
  · simp only [c1, if_true, if_false, ite_true, ite_false, not_true_eq_false, not_false_eq_true, true_or, or_true, false_or, or_false, and_self, ok_n0, ok_ni, ok_nr, ok_nl, va_rf_some, va_rf_none, true_and, and_true, List.length_nil, List.length_cons, Option.toList_some, Option.toList_none, List.cons_append, List.nil_append, rK_uA, rK_uI, rK_uJ, rK_uP, rP_uA, rP_uI, rP_uJ, rJ_uA, rJ_uI, rJ_uP, rI_uJ, rI_uP, rz_uA, rz_uI, rz_uJ, rz_uP, rs_uA, rs_uI, rs_uJ, rs_uP, Nat.reduceAdd, Nat.reduceMul, Nat.reduceSub, Nat.reduceLeDiff, Nat.reduceLT, Nat.reduceEqDiff, Nat.add_zero, Nat.zero_add, Nat.zero_le]
    refine s_part t t2 hB' (by decide) _ _ _ _ _ _ _ (fun H1 hH1 => ?_)
    simp only [if_true, if_false, ite_true, ite_false, not_true_eq_false, not_false_eq_true, true_or, or_true, false_or, or_false, and_self, ok_n0, ok_ni, ok_nr, ok_nl, va_rf_some, va_rf_none, true_and, and_true, List.length_nil, List.length_cons, Option.toList_some, Option.toList_none, List.cons_append, List.nil_append, rK_uA, rK_uI, rK_uJ, rK_uP, rP_uA, rP_uI, rP_uJ, rJ_uA, rJ_uI, rJ_uP, rI_uJ, rI_uP, rz_uA, rz_uI, rz_uJ, rz_uP, rs_uA, rs_uI, rs_uJ, rs_uP, Nat.reduceAdd, Nat.reduceMul, Nat.reduceSub, Nat.reduceLeDiff, Nat.reduceLT, Nat.reduceEqDiff, Nat.add_zero, Nat.zero_add, Nat.zero_le]
    refine s_balance_loop (N := N) (R := fun t => balB 60 g t N) t t2 hN2 _ _ _ _ Q hQ (2 * N) _ _ _ 1 N _ _ _ _ _ _ _ _ ok_n0 ok_n0 ok_n0 ok_n0 ok_n0 ok_n0 ok_n0 (by omega) (Nat.le_refl _) hH1 ⟨0, N, by omega, ?_, rfl⟩ (fun t h1 h2 => by omega)
    refine ⟨g, 60, ?_, ?_, ?_, ?_, ?_, ?_, by omega, by omega, fun u hu => ?_⟩
    · simp [pshB, upd]
    · simp [pshB, upd]
    · simp [pshB, upd]
    · simp [pshB, upd]
    · simp [pshB, upd]
    · simp [pshB, upd]
    · rw [Nat.zero_add]; exact ⟨rfl, rfl, rfl, rfl⟩
