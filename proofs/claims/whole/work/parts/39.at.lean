/-! DESK: what stands at a point -/
noncomputable def tlat (Y : Int64) (f B : Nat → Int32) (t m p : Int32) (N : Nat) (x y : Int32) : Nat → Nat → Nat → Int32
  | 0, _, _ => -1
  | r + 1, i, k => if fhas Y (f i) = true then tlat Y f B t m p N x y r (i + 1) k else if bholds (narB B t m p k N) x y = true then f i else tlat Y f B t m p N x y r (i + 1) (k + 1)
theorem s_tileAt_loop {h : pm_H} {d q : Nat} {C : Nat → Nat} {n cu s1 s2 i j : Nat} (t : DS h d C n cu s1 s2) (hi : i < 9) (hj : j < 4) (kq : rK h q = (1, 0)) (hq : q < d ∨ d + 53 ≤ q) {N : Nat} (hN : N ≤ 60) (x y : Int32) (Q : Option Value × pm_H → Prop) : ∀ (m k z : Nat) (g : Nat → Int32), k + m = C i → z ≤ k → (∀ g, Q (some (.int (tlat (rJ h (d + 50) 0) (rI h (d + 5 + 4 * i)) (rI h (d + 39 + 2 + j)) (rI h (d + 6 + 4 * i) 0) (rI h (d + 6 + 4 * i) 1) (rI h (d + 6 + 4 * i) 2) N x y m k z)), uA h q g)) → pGo 27 62 [some (.ref d), some (.int (nI j)), some (.int x), some (.int y), some (.ref q), some (.int (nI i)), some (.ref (d + 3 + 4 * i)), some (.int (nI N)), some (.int (nI z)), some (.int (nI k))] [] (uA h q g) Q := by
  obtain ⟨⟨k0, k1, k2, k3, k4, k5, k6, k7, k8, k9, k10, k11, k12, k13⟩, c, sc⟩ := id t
  obtain ⟨s0, s1', s2', s3, s4, -⟩ := k9
  obtain ⟨j1, j2, j3, j4, j5, j6⟩ := k7 i hi
  obtain ⟨hC, hC2⟩ := c i hi
  have d2 : ¬ d + 6 + 4 * i = q := by omega
  have d3 : ¬ d + 5 + 4 * i = q := by omega
  have d5 : ¬ d + 4 + 4 * i = q := by omega
  have d6 : ¬ d + 39 + 2 + j = q := by omega
  have kq' : ∀ g, rK (uA h q g) q = (1, 0) := fun g => kq
  have j6' : ∀ g, rK (uA h q g) (d + 6 + 4 * i) = (1, 4) := fun g => j6
  have s4' : ∀ g, rK (uA h q g) (d + 39 + 2 + j) = (1, 0) := fun g => s4 j hj
  have k11' : ∀ g, FLT (uA h q g) (d + 50) (d + 51) := fun g => k11
  intro m
  induction m with
  | zero =>
    intro k z g hk hz hQ
    have c1 : C i ≤ k := by omega
    rw [k27_62]
    simp (disch := omega) only [k27_0, k27_1, k27_4, k27_5, k27_8, k27_10, k27_11, k27_14, k27_16, k27_17, k27_19, k27_20, k27_23, k27_25, k27_26, k27_29, k27_30, k27_33, k27_34, k27_36, k27_39, k27_40, k27_41, k27_43, k27_45, k27_48, k27_51, k27_54, k27_56, k27_57, k27_59, k27_60, k27_64, k27_66, k27_69, k27_72, k27_75, k27_76, k27_79, k27_81, k27_84, k27_86, k27_89, k27_92, k27_95, k27_98, k27_100, k27_101, k27_104, k27_107, k27_108, k27_109, k27_112, k27_113, k27_116, k27_118, k27_119, k27_121, k27_123, k27_125, k27_128, k27_130, k27_131, k27_132, k27_135, k27_138, k27_140, k27_143, k27_145, k27_148, k27_149, k27_152, k27_155, k27_158, k27_159, if_true, if_false, ite_true, ite_false, not_true_eq_false, not_false_eq_true, true_or, or_true, false_or, or_false, and_self, ok_n0, ok_ni, ok_nr, ok_nl, va_rf_some, va_rf_none, true_and, and_true, List.length_nil, List.length_cons, Option.toList_some, Option.toList_none, List.cons_append, List.nil_append, rK_uA, rK_uI, rK_uJ, rK_uP, rP_uA, rP_uI, rP_uJ, rJ_uA, rJ_uI, rJ_uP, rI_uJ, rI_uP, rz_uA, rz_uI, rz_uJ, rz_uP, rs_uA, rs_uI, rs_uJ, rs_uP, Nat.reduceAdd, Nat.reduceMul, Nat.reduceSub, Nat.reduceLeDiff, Nat.reduceLT, Nat.reduceEqDiff, Nat.add_zero, Nat.zero_add, Nat.zero_le, j1, j2, j3, rI_uA, d5, hC, ar_le, c1]
    exact hQ g
  | succ m ih =>
    intro k z g hk hz hQ
    have c1 : ¬ C i ≤ k := by omega
    have ck : k < C i := by omega
    have hz60 : z < 60 := by omega
    rw [k27_62]
    simp (disch := omega) only [k27_0, k27_1, k27_4, k27_5, k27_8, k27_10, k27_11, k27_14, k27_16, k27_17, k27_19, k27_20, k27_23, k27_25, k27_26, k27_29, k27_30, k27_33, k27_34, k27_36, k27_39, k27_40, k27_41, k27_43, k27_45, k27_48, k27_51, k27_54, k27_56, k27_57, k27_59, k27_60, k27_64, k27_66, k27_69, k27_72, k27_75, k27_76, k27_79, k27_81, k27_84, k27_86, k27_89, k27_92, k27_95, k27_98, k27_100, k27_101, k27_104, k27_107, k27_108, k27_109, k27_112, k27_113, k27_116, k27_118, k27_119, k27_121, k27_123, k27_125, k27_128, k27_130, k27_131, k27_132, k27_135, k27_138, k27_140, k27_143, k27_145, k27_148, k27_149, k27_152, k27_155, k27_158, k27_159, s_Line_get ((t.box hq _).row hi).2.2.1, lget_nI ck, s_Floats_has (k11' _), if_true, if_false, ite_true, ite_false, not_true_eq_false, not_false_eq_true, true_or, or_true, false_or, or_false, and_self, ok_n0, ok_ni, ok_nr, ok_nl, va_rf_some, va_rf_none, true_and, and_true, List.length_nil, List.length_cons, Option.toList_some, Option.toList_none, List.cons_append, List.nil_append, rK_uA, rK_uI, rK_uJ, rK_uP, rP_uA, rP_uI, rP_uJ, rJ_uA, rJ_uI, rJ_uP, rI_uJ, rI_uP, rz_uA, rz_uI, rz_uJ, rz_uP, rs_uA, rs_uI, rs_uJ, rs_uP, Nat.reduceAdd, Nat.reduceMul, Nat.reduceSub, Nat.reduceLeDiff, Nat.reduceLT, Nat.reduceEqDiff, Nat.add_zero, Nat.zero_add, Nat.zero_le, k0, k3, k4, k6 i hi, k8, k10, k11.1, j1, j2, j3, j6, s0, s1', s2', s3 j hj, s4 j hj, s_Box_fill (kq' _) (s4' _), s_Layout_narrow (j6' _) (kq' _) d2 hz60 hN, s_Box_holds (kq' _), rI_uA, d2, d3, d5, d6, uA_uA, hC, hi, hj, kq, ar_le, ar_add, ar_okr, ar_cl, c1, nb_0]
    cases hb : fhas (rJ h (d + 50) 0) (rI h (d + 5 + 4 * i) k) with
    | true =>
      simp (disch := omega) only [if_true, if_false, ite_true, ite_false, not_true_eq_false, not_false_eq_true, true_or, or_true, false_or, or_false, and_self, ok_n0, ok_ni, ok_nr, ok_nl, va_rf_some, va_rf_none, true_and, and_true, List.length_nil, List.length_cons, Option.toList_some, Option.toList_none, List.cons_append, List.nil_append, rK_uA, rK_uI, rK_uJ, rK_uP, rP_uA, rP_uI, rP_uJ, rJ_uA, rJ_uI, rJ_uP, rI_uJ, rI_uP, rz_uA, rz_uI, rz_uJ, rz_uP, rs_uA, rs_uI, rs_uJ, rs_uP, Nat.reduceAdd, Nat.reduceMul, Nat.reduceSub, Nat.reduceLeDiff, Nat.reduceLT, Nat.reduceEqDiff, Nat.add_zero, Nat.zero_add, Nat.zero_le, reduceCtorEq]
      refine ih (k + 1) z g (by omega) (by omega) (fun g' => ?_)
      have := hQ g'
      rw [tlat, if_pos hb] at this
      exact this
    | false =>
      simp (disch := omega) only [if_true, if_false, ite_true, ite_false, not_true_eq_false, not_false_eq_true, true_or, or_true, false_or, or_false, and_self, ok_n0, ok_ni, ok_nr, ok_nl, va_rf_some, va_rf_none, true_and, and_true, List.length_nil, List.length_cons, Option.toList_some, Option.toList_none, List.cons_append, List.nil_append, rK_uA, rK_uI, rK_uJ, rK_uP, rP_uA, rP_uI, rP_uJ, rJ_uA, rJ_uI, rJ_uP, rI_uJ, rI_uP, rz_uA, rz_uI, rz_uJ, rz_uP, rs_uA, rs_uI, rs_uJ, rs_uP, Nat.reduceAdd, Nat.reduceMul, Nat.reduceSub, Nat.reduceLeDiff, Nat.reduceLT, Nat.reduceEqDiff, Nat.add_zero, Nat.zero_add, Nat.zero_le, reduceCtorEq]
      have e : ∀ g', bholds (narB (bx4 g' (rI h (d + 39 + 2 + j) 0) (rI h (d + 39 + 2 + j) 1) (rI h (d + 39 + 2 + j) 2) (rI h (d + 39 + 2 + j) 3)) (rI h (d + 6 + 4 * i) 0) (rI h (d + 6 + 4 * i) 1) (rI h (d + 6 + 4 * i) 2) z N) x y = bholds (narB (rI h (d + 39 + 2 + j)) (rI h (d + 6 + 4 * i) 0) (rI h (d + 6 + 4 * i) 1) (rI h (d + 6 + 4 * i) 2) z N) x y := fun g' => eq4_holds (eq4_narB ⟨bx4_0 _ _ _ _ _, bx4_1 _ _ _ _ _, bx4_2 _ _ _ _ _, bx4_3 _ _ _ _ _⟩ _ _ _ _ _) x y
      simp only [e]
      cases hb2 : bholds (narB (rI h (d + 39 + 2 + j)) (rI h (d + 6 + 4 * i) 0) (rI h (d + 6 + 4 * i) 1) (rI h (d + 6 + 4 * i) 2) z N) x y with
      | true =>
        simp only [if_true, if_false, ite_true, ite_false, not_true_eq_false, not_false_eq_true, true_or, or_true, false_or, or_false, and_self, ok_n0, ok_ni, ok_nr, ok_nl, va_rf_some, va_rf_none, true_and, and_true, List.length_nil, List.length_cons, Option.toList_some, Option.toList_none, List.cons_append, List.nil_append, rK_uA, rK_uI, rK_uJ, rK_uP, rP_uA, rP_uI, rP_uJ, rJ_uA, rJ_uI, rJ_uP, rI_uJ, rI_uP, rz_uA, rz_uI, rz_uJ, rz_uP, rs_uA, rs_uI, rs_uJ, rs_uP, Nat.reduceAdd, Nat.reduceMul, Nat.reduceSub, Nat.reduceLeDiff, Nat.reduceLT, Nat.reduceEqDiff, Nat.add_zero, Nat.zero_add, Nat.zero_le, reduceCtorEq]
        have := hQ (narB (bx4 g (rI h (d + 39 + 2 + j) 0) (rI h (d + 39 + 2 + j) 1) (rI h (d + 39 + 2 + j) 2) (rI h (d + 39 + 2 + j) 3)) (rI h (d + 6 + 4 * i) 0) (rI h (d + 6 + 4 * i) 1) (rI h (d + 6 + 4 * i) 2) z N)
        rw [tlat, if_neg (by rw [hb]; decide), if_pos hb2] at this
        exact this
      | false =>
        simp only [if_true, if_false, ite_true, ite_false, not_true_eq_false, not_false_eq_true, true_or, or_true, false_or, or_false, and_self, ok_n0, ok_ni, ok_nr, ok_nl, va_rf_some, va_rf_none, true_and, and_true, List.length_nil, List.length_cons, Option.toList_some, Option.toList_none, List.cons_append, List.nil_append, rK_uA, rK_uI, rK_uJ, rK_uP, rP_uA, rP_uI, rP_uJ, rJ_uA, rJ_uI, rJ_uP, rI_uJ, rI_uP, rz_uA, rz_uI, rz_uJ, rz_uP, rs_uA, rs_uI, rs_uJ, rs_uP, Nat.reduceAdd, Nat.reduceMul, Nat.reduceSub, Nat.reduceLeDiff, Nat.reduceLT, Nat.reduceEqDiff, Nat.add_zero, Nat.zero_add, Nat.zero_le, reduceCtorEq]
        refine ih (k + 1) (z + 1) _ (by omega) (by omega) (fun g' => ?_)
        have := hQ g'
        rw [tlat, if_neg (by rw [hb]; decide), if_neg (by rw [hb2]; decide)] at this
        exact this
noncomputable def tileR (Y : Int64) (f B : Nat → Int32) (c : Nat) (fo t m p x y : Int32) : Int32 := if t = nI 2 then ftil Y f c (lget f c fo) else tlat Y f B t m p (tcnt Y f c 0 0) x y c 0 0
theorem s_tileAt {h : pm_H} {d q : Nat} {C : Nat → Nat} {n cu s1 s2 i j : Nat} (t : DS h d C n cu s1 s2) (hi : i < 9) (hj : j < 4) (hjn : j < n) (hw : rI h (d + 39 + 6) j = nI i) (kq : rK h q = (1, 0)) (hq : q < d ∨ d + 53 ≤ q) (x y : Int32) (Q : Option Value × pm_H → Prop) (g0 : Nat → Int32) (hQ : ∀ g, Q (some (.int (tileR (rJ h (d + 50) 0) (rI h (d + 5 + 4 * i)) (rI h (d + 39 + 2 + j)) (C i) (rI h (d + 3 + 4 * i) 1) (rI h (d + 6 + 4 * i) 0) (rI h (d + 6 + 4 * i) 1) (rI h (d + 6 + 4 * i) 2) x y)), uA h q g)) : pGo 27 0 [some (.ref d), some (.int (nI j)), some (.int x), some (.int y), some (.ref q), none, none, none, none, none] [] (uA h q g0) Q := by
  obtain ⟨⟨k0, k1, k2, k3, k4, k5, k6, k7, k8, k9, k10, k11, k12, k13⟩, c, sc⟩ := id t
  obtain ⟨s0, s1', s2', s3, s4, -⟩ := id k9
  obtain ⟨j1, j2, j3, j4, j5, j6⟩ := k7 i hi
  obtain ⟨hC, hC2⟩ := c i hi
  have d2 : ¬ d + 6 + 4 * i = q := by omega
  have d3 : ¬ d + 5 + 4 * i = q := by omega
  have d4 : ¬ d + 3 + 4 * i = q := by omega
  have d5 : ¬ d + 4 + 4 * i = q := by omega
  have d7 : ¬ d + 39 + 6 = q := by omega
  have b2 : tcnt (rJ h (d + 50) 0) (rI h (d + 5 + 4 * i)) (C i) 0 0 ≤ 60 := by have := tcnt_le (rJ h (d + 50) 0) (rI h (d + 5 + 4 * i)) (C i) 0 0; omega
  have hn4 : n ≤ 4 := sc.2.2.1
  rw [k27_0]
  simp (disch := omega) only [k27_1, k27_4, k27_5, k27_8, k27_10, k27_11, k27_14, k27_16, k27_17, k27_19, k27_20, k27_23, k27_25, k27_26, k27_29, k27_30, k27_33, k27_34, k27_36, k27_39, k27_40, k27_41, k27_43, k27_45, k27_48, k27_51, k27_54, k27_56, k27_57, k27_59, k27_60, k27_64, k27_66, k27_69, k27_72, k27_75, k27_76, k27_79, k27_81, k27_84, k27_86, k27_89, k27_92, k27_95, k27_98, k27_100, k27_101, k27_104, k27_107, k27_108, k27_109, k27_112, k27_113, k27_116, k27_118, k27_119, k27_121, k27_123, k27_125, k27_128, k27_130, k27_131, k27_132, k27_135, k27_138, k27_140, k27_143, k27_145, k27_148, k27_149, k27_152, k27_155, k27_158, k27_159, s_Screens_workspaceOf (t.box hq _).2.2, lget_nI hjn, hw, s_fullTile (t.box hq _) hi, s_tilesAhead (t.box hq _) hi (Nat.le_refl _), if_true, if_false, ite_true, ite_false, not_true_eq_false, not_false_eq_true, true_or, or_true, false_or, or_false, and_self, ok_n0, ok_ni, ok_nr, ok_nl, va_rf_some, va_rf_none, true_and, and_true, List.length_nil, List.length_cons, Option.toList_some, Option.toList_none, List.cons_append, List.nil_append, rK_uA, rK_uI, rK_uJ, rK_uP, rP_uA, rP_uI, rP_uJ, rJ_uA, rJ_uI, rJ_uP, rI_uJ, rI_uP, rz_uA, rz_uI, rz_uJ, rz_uP, rs_uA, rs_uI, rs_uJ, rs_uP, Nat.reduceAdd, Nat.reduceMul, Nat.reduceSub, Nat.reduceLeDiff, Nat.reduceLT, Nat.reduceEqDiff, Nat.add_zero, Nat.zero_add, Nat.zero_le, k0, k1, k2, k3, k4, k5 i hi, k6 i hi, k8, s0, j1, j2, j3, j6, rI_uA, d2, d3, d4, d5, d7, hC, hi, ar_okr, ar_cl]
  by_cases hk : rI h (d + 6 + 4 * i) 0 = nI 2
  · simp only [hk, if_true, if_false, ite_true, ite_false, not_true_eq_false, not_false_eq_true, true_or, or_true, false_or, or_false, and_self, ok_n0, ok_ni, ok_nr, ok_nl, va_rf_some, va_rf_none, true_and, and_true, List.length_nil, List.length_cons, Option.toList_some, Option.toList_none, List.cons_append, List.nil_append, rK_uA, rK_uI, rK_uJ, rK_uP, rP_uA, rP_uI, rP_uJ, rJ_uA, rJ_uI, rJ_uP, rI_uJ, rI_uP, rz_uA, rz_uI, rz_uJ, rz_uP, rs_uA, rs_uI, rs_uJ, rs_uP, Nat.reduceAdd, Nat.reduceMul, Nat.reduceSub, Nat.reduceLeDiff, Nat.reduceLT, Nat.reduceEqDiff, Nat.add_zero, Nat.zero_add, Nat.zero_le]
    have := hQ g0
    rw [tileR, if_pos hk] at this
    exact this
  · simp only [hk, if_true, if_false, ite_true, ite_false, not_true_eq_false, not_false_eq_true, true_or, or_true, false_or, or_false, and_self, ok_n0, ok_ni, ok_nr, ok_nl, va_rf_some, va_rf_none, true_and, and_true, List.length_nil, List.length_cons, Option.toList_some, Option.toList_none, List.cons_append, List.nil_append, rK_uA, rK_uI, rK_uJ, rK_uP, rP_uA, rP_uI, rP_uJ, rJ_uA, rJ_uI, rJ_uP, rI_uJ, rI_uP, rz_uA, rz_uI, rz_uJ, rz_uP, rs_uA, rs_uI, rs_uJ, rs_uP, Nat.reduceAdd, Nat.reduceMul, Nat.reduceSub, Nat.reduceLeDiff, Nat.reduceLT, Nat.reduceEqDiff, Nat.add_zero, Nat.zero_add, Nat.zero_le]
    refine s_tileAt_loop t hi hj kq hq b2 x y Q (C i) 0 0 g0 (by omega) (by omega) (fun g => ?_)
    have := hQ g
    rw [tileR, if_neg hk] at this
    exact this
noncomputable def fltat (Y : Int64) (f B sh : Nat → Int32) (x y : Int32) : Nat → Nat → Int32 → Int32
  | 0, _, r => r
  | m + 1, i, r => if fholds Y B sh (f i) x y = true then f i else fltat Y f B sh x y m (i + 1) r
theorem s_floatHolds' {h : pm_H} {d : Nat} {C : Nat → Nat} {n cu s1 s2 j q : Nat} (t : DS h d C n cu s1 s2) (hj : j < 4) (kq : rK h q = (1, 0)) (hq : q < d ∨ d + 53 ≤ q) (w x y : Int32) (Q : Option Value × pm_H → Prop) (g0 : Nat → Int32) (hQ : ∀ g, Q (some (.int (nb (fholds (rJ h (d + 50) 0) (rI h (d + 39 + 2 + j)) (rI h (d + 51)) w x y))), uA h q g)) : pGo 26 0 [some (.ref d), some (.int w), some (.int (nI j)), some (.int x), some (.int y), some (.ref q)] [] (uA h q g0) Q := by
  refine s_floatHolds (t.box hq g0) hj kq hq w x y Q (fun g => ?_)
  have d6 : ¬ d + 39 + 2 + j = q := by omega
  have d7 : ¬ d + 51 = q := by omega
  rw [rJ_uA, rI_uA, if_neg d6, rI_uA, if_neg d7, uA_uA]
  exact hQ g
theorem s_windowAt_loop {h : pm_H} {d q : Nat} {C : Nat → Nat} {n cu s1 s2 i j : Nat} (t : DS h d C n cu s1 s2) (hi : i < 9) (hj : j < 4) (hjn : j < n) (hw : rI h (d + 39 + 6) j = nI i) (kq : rK h q = (1, 0)) (hq : q < d ∨ d + 53 ≤ q) (x y : Int32) (Q : Option Value × pm_H → Prop) : ∀ (m k : Nat) (g : Nat → Int32), k + m = C i → (∀ g, Q (some (.int (fltat (rJ h (d + 50) 0) (rI h (d + 5 + 4 * i)) (rI h (d + 39 + 2 + j)) (rI h (d + 51)) x y m k (tileR (rJ h (d + 50) 0) (rI h (d + 5 + 4 * i)) (rI h (d + 39 + 2 + j)) (C i) (rI h (d + 3 + 4 * i) 1) (rI h (d + 6 + 4 * i) 0) (rI h (d + 6 + 4 * i) 1) (rI h (d + 6 + 4 * i) 2) x y))), uA h q g)) → pGo 25 61 [some (.ref d), some (.int x), some (.int y), some (.ref q), some (.int (nI j)), some (.ref (d + 3 + 4 * i)), some (.int (nI k))] [] (uA h q g) Q := by
  obtain ⟨⟨k0, k1, k2, k3, k4, k5, k6, k7, k8, k9, k10, k11, k12, k13⟩, c, sc⟩ := id t
  obtain ⟨j1, j2, j3, j4, j5, j6⟩ := k7 i hi
  obtain ⟨hC, hC2⟩ := c i hi
  have d3 : ¬ d + 5 + 4 * i = q := by omega
  have d5 : ¬ d + 4 + 4 * i = q := by omega
  intro m
  induction m with
  | zero =>
    intro k g hk hQ
    have c1 : C i ≤ k := by omega
    rw [k25_61]
    simp (disch := omega) only [k25_0, k25_1, k25_4, k25_5, k25_6, k25_9, k25_11, k25_13, k25_14, k25_17, k25_18, k25_19, k25_20, k25_23, k25_24, k25_27, k25_29, k25_32, k25_33, k25_35, k25_36, k25_38, k25_41, k25_43, k25_44, k25_45, k25_46, k25_49, k25_52, k25_54, k25_57, k25_58, k25_59, k25_63, k25_65, k25_68, k25_71, k25_74, k25_75, k25_77, k25_80, k25_82, k25_85, k25_87, k25_88, k25_89, k25_90, k25_93, k25_96, k25_98, k25_101, k25_103, k25_106, k25_107, k25_110, k25_113, k25_114, k25_116, k25_117, k25_118, k25_119, k25_122, if_true, if_false, ite_true, ite_false, not_true_eq_false, not_false_eq_true, true_or, or_true, false_or, or_false, and_self, ok_n0, ok_ni, ok_nr, ok_nl, va_rf_some, va_rf_none, true_and, and_true, List.length_nil, List.length_cons, Option.toList_some, Option.toList_none, List.cons_append, List.nil_append, rK_uA, rK_uI, rK_uJ, rK_uP, rP_uA, rP_uI, rP_uJ, rJ_uA, rJ_uI, rJ_uP, rI_uJ, rI_uP, rz_uA, rz_uI, rz_uJ, rz_uP, rs_uA, rs_uI, rs_uJ, rs_uP, Nat.reduceAdd, Nat.reduceMul, Nat.reduceSub, Nat.reduceLeDiff, Nat.reduceLT, Nat.reduceEqDiff, Nat.add_zero, Nat.zero_add, Nat.zero_le, j1, j2, j3, k0, rI_uA, d5, hC, ar_le, c1]
    refine s_tileAt t hi hj hjn hw kq hq x y _ g (fun g' => ?_)
    simp only [k25_0, k25_1, k25_4, k25_5, k25_6, k25_9, k25_11, k25_13, k25_14, k25_17, k25_18, k25_19, k25_20, k25_23, k25_24, k25_27, k25_29, k25_32, k25_33, k25_35, k25_36, k25_38, k25_41, k25_43, k25_44, k25_45, k25_46, k25_49, k25_52, k25_54, k25_57, k25_58, k25_59, k25_63, k25_65, k25_68, k25_71, k25_74, k25_75, k25_77, k25_80, k25_82, k25_85, k25_87, k25_88, k25_89, k25_90, k25_93, k25_96, k25_98, k25_101, k25_103, k25_106, k25_107, k25_110, k25_113, k25_114, k25_116, k25_117, k25_118, k25_119, k25_122, if_true, if_false, ite_true, ite_false, not_true_eq_false, not_false_eq_true, true_or, or_true, false_or, or_false, and_self, ok_n0, ok_ni, ok_nr, ok_nl, va_rf_some, va_rf_none, true_and, and_true, List.length_nil, List.length_cons, Option.toList_some, Option.toList_none, List.cons_append, List.nil_append, rK_uA, rK_uI, rK_uJ, rK_uP, rP_uA, rP_uI, rP_uJ, rJ_uA, rJ_uI, rJ_uP, rI_uJ, rI_uP, rz_uA, rz_uI, rz_uJ, rz_uP, rs_uA, rs_uI, rs_uJ, rs_uP, Nat.reduceAdd, Nat.reduceMul, Nat.reduceSub, Nat.reduceLeDiff, Nat.reduceLT, Nat.reduceEqDiff, Nat.add_zero, Nat.zero_add, Nat.zero_le]
    exact hQ g'
  | succ m ih =>
    intro k g hk hQ
    have c1 : ¬ C i ≤ k := by omega
    have ck : k < C i := by omega
    rw [k25_61]
    simp (disch := omega) only [k25_0, k25_1, k25_4, k25_5, k25_6, k25_9, k25_11, k25_13, k25_14, k25_17, k25_18, k25_19, k25_20, k25_23, k25_24, k25_27, k25_29, k25_32, k25_33, k25_35, k25_36, k25_38, k25_41, k25_43, k25_44, k25_45, k25_46, k25_49, k25_52, k25_54, k25_57, k25_58, k25_59, k25_63, k25_65, k25_68, k25_71, k25_74, k25_75, k25_77, k25_80, k25_82, k25_85, k25_87, k25_88, k25_89, k25_90, k25_93, k25_96, k25_98, k25_101, k25_103, k25_106, k25_107, k25_110, k25_113, k25_114, k25_116, k25_117, k25_118, k25_119, k25_122, s_Line_get ((t.box hq _).row hi).2.2.1, lget_nI ck, if_true, if_false, ite_true, ite_false, not_true_eq_false, not_false_eq_true, true_or, or_true, false_or, or_false, and_self, ok_n0, ok_ni, ok_nr, ok_nl, va_rf_some, va_rf_none, true_and, and_true, List.length_nil, List.length_cons, Option.toList_some, Option.toList_none, List.cons_append, List.nil_append, rK_uA, rK_uI, rK_uJ, rK_uP, rP_uA, rP_uI, rP_uJ, rJ_uA, rJ_uI, rJ_uP, rI_uJ, rI_uP, rz_uA, rz_uI, rz_uJ, rz_uP, rs_uA, rs_uI, rs_uJ, rs_uP, Nat.reduceAdd, Nat.reduceMul, Nat.reduceSub, Nat.reduceLeDiff, Nat.reduceLT, Nat.reduceEqDiff, Nat.add_zero, Nat.zero_add, Nat.zero_le, k0, j1, j2, j3, rI_uA, d3, d5, hC, ar_le, c1]
    refine s_floatHolds' t hj kq hq _ x y _ g (fun g' => ?_)
    simp (disch := omega) only [k25_0, k25_1, k25_4, k25_5, k25_6, k25_9, k25_11, k25_13, k25_14, k25_17, k25_18, k25_19, k25_20, k25_23, k25_24, k25_27, k25_29, k25_32, k25_33, k25_35, k25_36, k25_38, k25_41, k25_43, k25_44, k25_45, k25_46, k25_49, k25_52, k25_54, k25_57, k25_58, k25_59, k25_63, k25_65, k25_68, k25_71, k25_74, k25_75, k25_77, k25_80, k25_82, k25_85, k25_87, k25_88, k25_89, k25_90, k25_93, k25_96, k25_98, k25_101, k25_103, k25_106, k25_107, k25_110, k25_113, k25_114, k25_116, k25_117, k25_118, k25_119, k25_122, s_Line_get ((t.box hq _).row hi).2.2.1, lget_nI ck, if_true, if_false, ite_true, ite_false, not_true_eq_false, not_false_eq_true, true_or, or_true, false_or, or_false, and_self, ok_n0, ok_ni, ok_nr, ok_nl, va_rf_some, va_rf_none, true_and, and_true, List.length_nil, List.length_cons, Option.toList_some, Option.toList_none, List.cons_append, List.nil_append, rK_uA, rK_uI, rK_uJ, rK_uP, rP_uA, rP_uI, rP_uJ, rJ_uA, rJ_uI, rJ_uP, rI_uJ, rI_uP, rz_uA, rz_uI, rz_uJ, rz_uP, rs_uA, rs_uI, rs_uJ, rs_uP, Nat.reduceAdd, Nat.reduceMul, Nat.reduceSub, Nat.reduceLeDiff, Nat.reduceLT, Nat.reduceEqDiff, Nat.add_zero, Nat.zero_add, Nat.zero_le, k0, j1, j2, j3, rI_uA, d3, nb_0, ar_add]
    cases hb : fholds (rJ h (d + 50) 0) (rI h (d + 39 + 2 + j)) (rI h (d + 51)) (rI h (d + 5 + 4 * i) k) x y with
    | true =>
      simp only [if_true, if_false, ite_true, ite_false, not_true_eq_false, not_false_eq_true, true_or, or_true, false_or, or_false, and_self, ok_n0, ok_ni, ok_nr, ok_nl, va_rf_some, va_rf_none, true_and, and_true, List.length_nil, List.length_cons, Option.toList_some, Option.toList_none, List.cons_append, List.nil_append, rK_uA, rK_uI, rK_uJ, rK_uP, rP_uA, rP_uI, rP_uJ, rJ_uA, rJ_uI, rJ_uP, rI_uJ, rI_uP, rz_uA, rz_uI, rz_uJ, rz_uP, rs_uA, rs_uI, rs_uJ, rs_uP, Nat.reduceAdd, Nat.reduceMul, Nat.reduceSub, Nat.reduceLeDiff, Nat.reduceLT, Nat.reduceEqDiff, Nat.add_zero, Nat.zero_add, Nat.zero_le, reduceCtorEq]
      have := hQ g'
      rw [fltat, if_pos hb] at this
      exact this
    | false =>
      simp only [if_true, if_false, ite_true, ite_false, not_true_eq_false, not_false_eq_true, true_or, or_true, false_or, or_false, and_self, ok_n0, ok_ni, ok_nr, ok_nl, va_rf_some, va_rf_none, true_and, and_true, List.length_nil, List.length_cons, Option.toList_some, Option.toList_none, List.cons_append, List.nil_append, rK_uA, rK_uI, rK_uJ, rK_uP, rP_uA, rP_uI, rP_uJ, rJ_uA, rJ_uI, rJ_uP, rI_uJ, rI_uP, rz_uA, rz_uI, rz_uJ, rz_uP, rs_uA, rs_uI, rs_uJ, rs_uP, Nat.reduceAdd, Nat.reduceMul, Nat.reduceSub, Nat.reduceLeDiff, Nat.reduceLT, Nat.reduceEqDiff, Nat.add_zero, Nat.zero_add, Nat.zero_le, reduceCtorEq]
      refine ih (k + 1) g' (by omega) (fun g2 => ?_)
      have := hQ g2
      rw [fltat, if_neg (by rw [hb]; decide)] at this
      exact this
/-- the window at a point of screen j, which shows workspace i -/
noncomputable def watR (Y : Int64) (f B sh : Nat → Int32) (c : Nat) (fo t m p x y : Int32) : Int32 := if fholds Y B sh (lget f c fo) x y = true then lget f c fo else fltat Y f B sh x y c 0 (tileR Y f B c fo t m p x y)
theorem s_windowAt {h : pm_H} {d q : Nat} {C : Nat → Nat} {n cu s1 s2 i j : Nat} (t : DS h d C n cu s1 s2) (hi : i < 9) (hjn : j < n) (x y : Int32) (hs : scat (fun j => rI h (d + 39 + 2 + j)) x y n 0 = nI j) (hw : rI h (d + 39 + 6) j = nI i) (kq : rK h q = (1, 0)) (hq : q < d ∨ d + 53 ≤ q) (Q : Option Value × pm_H → Prop) (hQ : ∀ g, Q (some (.int (watR (rJ h (d + 50) 0) (rI h (d + 5 + 4 * i)) (rI h (d + 39 + 2 + j)) (rI h (d + 51)) (C i) (rI h (d + 3 + 4 * i) 1) (rI h (d + 6 + 4 * i) 0) (rI h (d + 6 + 4 * i) 1) (rI h (d + 6 + 4 * i) 2) x y)), uA h q g)) : pGo 25 0 [some (.ref d), some (.int x), some (.int y), some (.ref q), none, none, none] [] h Q := by
  obtain ⟨⟨k0, k1, k2, k3, k4, k5, k6, k7, k8, k9, k10, k11, k12, k13⟩, c, sc⟩ := id t
  obtain ⟨j1, j2, j3, j4, j5, j6⟩ := k7 i hi
  have hn4 : n ≤ 4 := sc.2.2.1
  have hj : j < 4 := by omega
  have d3 : ¬ d + 5 + 4 * i = q := by omega
  have d4 : ¬ d + 3 + 4 * i = q := by omega
  rw [k25_0]
  simp (disch := omega) only [k25_1, k25_4, k25_5, k25_6, k25_9, k25_11, k25_13, k25_14, k25_17, k25_18, k25_19, k25_20, k25_23, k25_24, k25_27, k25_29, k25_32, k25_33, k25_35, k25_36, k25_38, k25_41, k25_43, k25_44, k25_45, k25_46, k25_49, k25_52, k25_54, k25_57, k25_58, k25_59, k25_63, k25_65, k25_68, k25_71, k25_74, k25_75, k25_77, k25_80, k25_82, k25_85, k25_87, k25_88, k25_89, k25_90, k25_93, k25_96, k25_98, k25_101, k25_103, k25_106, k25_107, k25_110, k25_113, k25_114, k25_116, k25_117, k25_118, k25_119, k25_122, s_Screens_screenAt sc, hs, s_Screens_workspaceOf sc, lget_nI hjn, hw, s_Row_focused (t.row hi), if_true, if_false, ite_true, ite_false, not_true_eq_false, not_false_eq_true, true_or, or_true, false_or, or_false, and_self, ok_n0, ok_ni, ok_nr, ok_nl, va_rf_some, va_rf_none, true_and, and_true, List.length_nil, List.length_cons, Option.toList_some, Option.toList_none, List.cons_append, List.nil_append, rK_uA, rK_uI, rK_uJ, rK_uP, rP_uA, rP_uI, rP_uJ, rJ_uA, rJ_uI, rJ_uP, rI_uJ, rI_uP, rz_uA, rz_uI, rz_uJ, rz_uP, rs_uA, rs_uI, rs_uJ, rs_uP, Nat.reduceAdd, Nat.reduceMul, Nat.reduceSub, Nat.reduceLeDiff, Nat.reduceLT, Nat.reduceEqDiff, Nat.add_zero, Nat.zero_add, Nat.zero_le, k0, k1, k2, k5 i hi, k8, k9.1, j1, hi, ar_okr, ar_cl, ar_nm]
  have hF := s_floatHolds' t hj kq hq (lget (rI h (d + 5 + 4 * i)) (C i) (rI h (d + 3 + 4 * i) 1)) x y (g0 := rI h q)
  rw [uA_self] at hF
  refine hF _ (fun g => ?_)
  simp (disch := omega) only [k25_1, k25_4, k25_5, k25_6, k25_9, k25_11, k25_13, k25_14, k25_17, k25_18, k25_19, k25_20, k25_23, k25_24, k25_27, k25_29, k25_32, k25_33, k25_35, k25_36, k25_38, k25_41, k25_43, k25_44, k25_45, k25_46, k25_49, k25_52, k25_54, k25_57, k25_58, k25_59, k25_63, k25_65, k25_68, k25_71, k25_74, k25_75, k25_77, k25_80, k25_82, k25_85, k25_87, k25_88, k25_89, k25_90, k25_93, k25_96, k25_98, k25_101, k25_103, k25_106, k25_107, k25_110, k25_113, k25_114, k25_116, k25_117, k25_118, k25_119, k25_122, s_Row_focused ((t.box hq _).row hi), if_true, if_false, ite_true, ite_false, not_true_eq_false, not_false_eq_true, true_or, or_true, false_or, or_false, and_self, ok_n0, ok_ni, ok_nr, ok_nl, va_rf_some, va_rf_none, true_and, and_true, List.length_nil, List.length_cons, Option.toList_some, Option.toList_none, List.cons_append, List.nil_append, rK_uA, rK_uI, rK_uJ, rK_uP, rP_uA, rP_uI, rP_uJ, rJ_uA, rJ_uI, rJ_uP, rI_uJ, rI_uP, rz_uA, rz_uI, rz_uJ, rz_uP, rs_uA, rs_uI, rs_uJ, rs_uP, Nat.reduceAdd, Nat.reduceMul, Nat.reduceSub, Nat.reduceLeDiff, Nat.reduceLT, Nat.reduceEqDiff, Nat.add_zero, Nat.zero_add, Nat.zero_le, j1, rI_uA, d3, d4, nb_0]
  cases hb : fholds (rJ h (d + 50) 0) (rI h (d + 39 + 2 + j)) (rI h (d + 51)) (lget (rI h (d + 5 + 4 * i)) (C i) (rI h (d + 3 + 4 * i) 1)) x y with
  | true =>
    simp only [if_true, if_false, ite_true, ite_false, not_true_eq_false, not_false_eq_true, true_or, or_true, false_or, or_false, and_self, ok_n0, ok_ni, ok_nr, ok_nl, va_rf_some, va_rf_none, true_and, and_true, List.length_nil, List.length_cons, Option.toList_some, Option.toList_none, List.cons_append, List.nil_append, rK_uA, rK_uI, rK_uJ, rK_uP, rP_uA, rP_uI, rP_uJ, rJ_uA, rJ_uI, rJ_uP, rI_uJ, rI_uP, rz_uA, rz_uI, rz_uJ, rz_uP, rs_uA, rs_uI, rs_uJ, rs_uP, Nat.reduceAdd, Nat.reduceMul, Nat.reduceSub, Nat.reduceLeDiff, Nat.reduceLT, Nat.reduceEqDiff, Nat.add_zero, Nat.zero_add, Nat.zero_le, reduceCtorEq]
    have := hQ g
    rw [watR, if_pos hb] at this
    exact this
  | false =>
    simp only [if_true, if_false, ite_true, ite_false, not_true_eq_false, not_false_eq_true, true_or, or_true, false_or, or_false, and_self, ok_n0, ok_ni, ok_nr, ok_nl, va_rf_some, va_rf_none, true_and, and_true, List.length_nil, List.length_cons, Option.toList_some, Option.toList_none, List.cons_append, List.nil_append, rK_uA, rK_uI, rK_uJ, rK_uP, rP_uA, rP_uI, rP_uJ, rJ_uA, rJ_uI, rJ_uP, rI_uJ, rI_uP, rz_uA, rz_uI, rz_uJ, rz_uP, rs_uA, rs_uI, rs_uJ, rs_uP, Nat.reduceAdd, Nat.reduceMul, Nat.reduceSub, Nat.reduceLeDiff, Nat.reduceLT, Nat.reduceEqDiff, Nat.add_zero, Nat.zero_add, Nat.zero_le, reduceCtorEq]
    refine s_windowAt_loop t hi hj hjn hw kq hq x y Q (C i) 0 g (by omega) (fun g2 => ?_)
    have := hQ g2
    rw [watR, if_neg (by rw [hb]; decide)] at this
    exact this
theorem s_windowAt_no {h : pm_H} {d q : Nat} {C : Nat → Nat} {n cu s1 s2 : Nat} (t : DS h d C n cu s1 s2) (x y : Int32) (hs : scat (fun j => rI h (d + 39 + 2 + j)) x y n 0 = -1) (Q : Option Value × pm_H → Prop) : pGo 25 0 [some (.ref d), some (.int x), some (.int y), some (.ref q), none, none, none] [] h Q = Q (some (.int (-1)), h) := by
  obtain ⟨⟨k0, k1, k2, k3, k4, k5, k6, k7, k8, k9, k10, k11, k12, k13⟩, c, sc⟩ := id t
  rw [k25_0]
  simp (disch := omega) only [k25_1, k25_4, k25_5, k25_6, k25_9, k25_11, k25_13, k25_14, k25_17, k25_18, k25_19, k25_20, k25_23, k25_24, k25_27, k25_29, k25_32, k25_33, k25_35, k25_36, k25_38, k25_41, k25_43, k25_44, k25_45, k25_46, k25_49, k25_52, k25_54, k25_57, k25_58, k25_59, k25_63, k25_65, k25_68, k25_71, k25_74, k25_75, k25_77, k25_80, k25_82, k25_85, k25_87, k25_88, k25_89, k25_90, k25_93, k25_96, k25_98, k25_101, k25_103, k25_106, k25_107, k25_110, k25_113, k25_114, k25_116, k25_117, k25_118, k25_119, k25_122, s_Screens_screenAt sc, hs, if_true, if_false, ite_true, ite_false, not_true_eq_false, not_false_eq_true, true_or, or_true, false_or, or_false, and_self, ok_n0, ok_ni, ok_nr, ok_nl, va_rf_some, va_rf_none, true_and, and_true, List.length_nil, List.length_cons, Option.toList_some, Option.toList_none, List.cons_append, List.nil_append, rK_uA, rK_uI, rK_uJ, rK_uP, rP_uA, rP_uI, rP_uJ, rJ_uA, rJ_uI, rJ_uP, rI_uJ, rI_uP, rz_uA, rz_uI, rz_uJ, rz_uP, rs_uA, rs_uI, rs_uJ, rs_uP, Nat.reduceAdd, Nat.reduceMul, Nat.reduceSub, Nat.reduceLeDiff, Nat.reduceLT, Nat.reduceEqDiff, Nat.add_zero, Nat.zero_add, Nat.zero_le, k0, k8, k9.1]
