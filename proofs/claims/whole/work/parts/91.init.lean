/-! HOW DESKS ARE MADE -/
def SQ (h h' : pm_H) (q : Nat) : Prop := rK h' q = rK h q ∧ rI h' q = rI h q ∧ rJ h' q = rJ h q ∧ rP h' q = rP h q
theorem SQ.rf (h : pm_H) (q : Nat) : SQ h h q := ⟨rfl, rfl, rfl, rfl⟩
theorem SQ.tr {a b c : pm_H} {q : Nat} (x : SQ a b q) (y : SQ b c q) : SQ a c q := ⟨y.1.trans x.1, y.2.1.trans x.2.1, y.2.2.1.trans x.2.2.1, y.2.2.2.trans x.2.2.2⟩
theorem SQ.aN (h : pm_H) (kd : Nat × Nat) (n : Nat) {q : Nat} (hq : q < rz h) : SQ h (aN h kd n) q := by
  refine ⟨?_, ?_, ?_, ?_⟩
  · rw [rK_aN, if_neg (by omega)]
  · rw [rI_aN, if_neg (by omega)]
  · rw [rJ_aN, if_neg (by omega)]
  · rw [rP_aN, if_neg (by omega)]
theorem SQ.uA (h : pm_H) {a q : Nat} (f : Nat → Int32) (hq : ¬ q = a) : SQ h (uA h a f) q := ⟨rfl, by rw [rI_uA, if_neg hq], rfl, rfl⟩
theorem SQ.uI (h : pm_H) {a q : Nat} (k : Nat) (x : Int32) (hq : ¬ q = a) : SQ h (uI h a k x) q := SQ.uA h _ hq
theorem SQ.uJ (h : pm_H) {a q : Nat} (k : Nat) (x : Int64) (hq : ¬ q = a) : SQ h (uJ h a k x) q := ⟨rfl, rfl, by rw [rJ_uJ, if_neg hq], rfl⟩
theorem rP_uPo (h : pm_H) {a q : Nat} (k : Nat) (x : Option Nat) (hq : ¬ q = a) : rP (uP h a k x) q = rP h q := by
  simp only [uP, rP, hq, if_false]
theorem rP_uPs (h : pm_H) (a k : Nat) (x : Option Nat) (j : Nat) : rP (uP h a k x) a j = if j = k then x else rP h a j := by
  simp only [uP, rP, if_true, va_up]
theorem SQ.uP (h : pm_H) {a q : Nat} (k : Nat) (x : Option Nat) (hq : ¬ q = a) : SQ h (uP h a k x) q := ⟨rfl, rfl, rfl, rP_uPo h k x hq⟩
/-- k cells and m slots more, the old ones as they were -/
def NW (h h' : pm_H) (k m : Nat) : Prop := rz h' = rz h + k ∧ rs h' = rs h + m ∧ ∀ q, q < rz h → SQ h h' q
def LNC (h : pm_H) (z n : Nat) : Prop := rK h z = (1, 5) ∧ rP h z 0 = some (z + 1) ∧ rK h (z + 1) = (2, n) ∧ rI h z 1 = nI 0 ∧ ∀ k, rI h (z + 1) k = 0
theorem n_Line (h : pm_H) {n : Nat} (hn : n ≤ 1000) : ∃ h', (∀ Q, pGo 54 0 [some (.ref (rz h)), some (.int (nI n))] [] (aN h (1, 5) 2) Q = Q (none, h')) ∧ NW h h' 2 (2 + n) ∧ LNC h' (rz h) n := by
  have d1 : ¬ rz h = rz h + 1 := by omega
  have d2 : ¬ rz h + 1 = rz h := by omega
  have e1 : ¬ n < 0 := by omega
  have e2 : n ≤ 100000 := by omega
  refine ⟨uI (uP (aN (aN h (1, 5) 2) (2, n) n) (rz h) 0 (some (rz h + 1))) (rz h) 1 (nI 0), fun Q => ?_, ⟨?_, ?_, fun q hq => ?_⟩, ?_, ?_, ?_, ?_, fun k => ?_⟩
  · simp (disch := omega) only [k54_0, k54_1, k54_4, k54_5, k54_6, k54_7, k54_10, k54_12, k54_15, k54_16, k54_17, k54_20, s_max, if_true, if_false, ite_true, ite_false, not_true_eq_false, not_false_eq_true, true_or, or_true, false_or, or_false, and_self, ok_n0, ok_ni, ok_nr, ok_nl, va_rf_some, va_rf_none, true_and, and_true, List.length_nil, List.length_cons, Option.toList_some, Option.toList_none, List.cons_append, List.nil_append, rK_uA, rK_uI, rK_uJ, rK_uP, rP_uA, rP_uI, rP_uJ, rJ_uA, rJ_uI, rJ_uP, rI_uJ, rI_uP, rz_uA, rz_uI, rz_uJ, rz_uP, rs_uA, rs_uI, rs_uJ, rs_uP, Nat.reduceAdd, Nat.reduceMul, Nat.reduceSub, Nat.reduceLeDiff, Nat.reduceLT, Nat.reduceEqDiff, Nat.add_zero, Nat.zero_add, Nat.zero_le, ar_lt, ar_cl, ar_n0, e1, e2, rz_aN, rK_aN, d1]
  · rw [rz_uI, rz_uP, rz_aN, rz_aN]
  · rw [rs_uI, rs_uP, rs_aN, rs_aN]; try omega
  · exact (((SQ.aN h _ _ hq).tr (SQ.aN _ _ _ (by rw [rz_aN]; omega))).tr (SQ.uP _ _ _ (by omega))).tr (SQ.uI _ _ _ (by omega))
  · rw [rK_uI, rK_uP, rK_aN, rz_aN, if_neg d1, rK_aN, if_pos rfl]
  · rw [rP_uI, rP_uPs, if_pos rfl]
  · rw [rK_uI, rK_uP, rK_aN, rz_aN, if_pos rfl]
  · rw [rI_uI, if_pos rfl, pk_us]
  · rw [rI_uI, if_neg d2, rI_uP, rI_aN, rz_aN, if_pos rfl]
theorem n_Row (h : pm_H) : ∃ h', (∀ Q, pGo 63 0 [some (.ref (rz h))] [] (aN h (1, 6) 2) Q = Q (none, h')) ∧ NW h h' 3 64 ∧ rK h' (rz h) = (1, 6) ∧ rP h' (rz h) 0 = some (rz h + 1) ∧ rI h' (rz h) 1 = -1 ∧ LNC h' (rz h + 1) 60 := by
  obtain ⟨h1, x1, ⟨w1, w2, w3⟩, l1, l2, l3, l4, l5⟩ := n_Line (aN h (1, 6) 2) (n := 60) (by omega)
  rw [rz_aN] at x1 w1 w3 l1 l2 l3 l4 l5
  have d1 : ¬ rz h = rz h + 1 := by omega
  have d2 : ¬ rz h + 1 = rz h := by omega
  have d3 : ¬ rz h + 1 + 1 = rz h := by omega
  have s1 := w3 (rz h) (by omega)
  have k1 : rK h1 (rz h) = (1, 6) := by rw [s1.1, rK_aN, if_pos rfl]
  refine ⟨uI (uP h1 (rz h) 0 (some (rz h + 1))) (rz h) 1 (-1), fun Q => ?_, ⟨?_, ?_, fun q hq => ?_⟩, ?_, ?_, ?_, ?_, ?_, ?_, ?_, fun k => ?_⟩
  · simp (disch := omega) only [k63_0, k63_1, k63_4, k63_5, k63_8, k63_8i, k63_9, k63_11, k63_14, k63_17, k63_18, k63_19, k63_22, if_true, if_false, ite_true, ite_false, not_true_eq_false, not_false_eq_true, true_or, or_true, false_or, or_false, and_self, ok_n0, ok_ni, ok_nr, ok_nl, va_rf_some, va_rf_none, true_and, and_true, List.length_nil, List.length_cons, Option.toList_some, Option.toList_none, List.cons_append, List.nil_append, rK_uA, rK_uI, rK_uJ, rK_uP, rP_uA, rP_uI, rP_uJ, rJ_uA, rJ_uI, rJ_uP, rI_uJ, rI_uP, rz_uA, rz_uI, rz_uJ, rz_uP, rs_uA, rs_uI, rs_uJ, rs_uP, Nat.reduceAdd, Nat.reduceMul, Nat.reduceSub, Nat.reduceLeDiff, Nat.reduceLT, Nat.reduceEqDiff, Nat.add_zero, Nat.zero_add, Nat.zero_le, rz_aN, x1, k1]
  · rw [rz_uI, rz_uP, w1]
  · rw [rs_uI, rs_uP, w2, rs_aN]; try omega
  · exact (((SQ.aN h _ _ hq).tr (w3 q (by omega))).tr (SQ.uP _ _ _ (by omega))).tr (SQ.uI _ _ _ (by omega))
  · rw [rK_uI, rK_uP]; exact k1
  · rw [rP_uI, rP_uPs, if_pos rfl]
  · rw [rI_uI, if_pos rfl, pk_us]
  · rw [rK_uI, rK_uP]; exact l1
  · rw [rP_uI, rP_uPo _ _ _ d2]; exact l2
  · rw [rK_uI, rK_uP]; exact l3
  · rw [rI_uI, if_neg d2, rI_uP]; exact l4
  · rw [rI_uI, if_neg d3, rI_uP]; exact l5 k
theorem n_Layout (h : pm_H) : ∃ h', (∀ Q, pGo 45 0 [some (.ref (rz h))] [] (aN h (1, 4) 3) Q = Q (none, h')) ∧ NW h h' 1 3 ∧ rK h' (rz h) = (1, 4) ∧ rI h' (rz h) 0 = nI 0 ∧ rI h' (rz h) 1 = nI 1 ∧ rI h' (rz h) 2 = nI 500 := by
  have k1 : rK (aN h (1, 4) 3) (rz h) = (1, 4) := by rw [rK_aN, if_pos rfl]
  refine ⟨uI (uI (uI (aN h (1, 4) 3) (rz h) 0 (nI 0)) (rz h) 1 (nI 1)) (rz h) 2 (nI 500), fun Q => ?_, ⟨?_, ?_, fun q hq => ?_⟩, ?_, ?_, ?_, ?_⟩
  · simp (disch := omega) only [k45_0, k45_1, k45_4, k45_5, k45_6, k45_9, k45_10, k45_11, k45_14, k45_15, k45_18, k45_21, if_true, if_false, ite_true, ite_false, not_true_eq_false, not_false_eq_true, true_or, or_true, false_or, or_false, and_self, ok_n0, ok_ni, ok_nr, ok_nl, va_rf_some, va_rf_none, true_and, and_true, List.length_nil, List.length_cons, Option.toList_some, Option.toList_none, List.cons_append, List.nil_append, rK_uA, rK_uI, rK_uJ, rK_uP, rP_uA, rP_uI, rP_uJ, rJ_uA, rJ_uI, rJ_uP, rI_uJ, rI_uP, rz_uA, rz_uI, rz_uJ, rz_uP, rs_uA, rs_uI, rs_uJ, rs_uP, Nat.reduceAdd, Nat.reduceMul, Nat.reduceSub, Nat.reduceLeDiff, Nat.reduceLT, Nat.reduceEqDiff, Nat.add_zero, Nat.zero_add, Nat.zero_le, k1]
  · rw [rz_uI, rz_uI, rz_uI, rz_aN]
  · rw [rs_uI, rs_uI, rs_uI, rs_aN]
  · exact (((SQ.aN h _ _ hq).tr (SQ.uI _ _ _ (by omega))).tr (SQ.uI _ _ _ (by omega))).tr (SQ.uI _ _ _ (by omega))
  · exact k1
  · rw [rI_uI, if_pos rfl, upd_at, if_neg (by omega), rI_uI, if_pos rfl, upd_at, if_neg (by omega), rI_uI, if_pos rfl, pk_us]
  · rw [rI_uI, if_pos rfl, upd_at, if_neg (by omega), rI_uI, if_pos rfl, pk_us]
  · rw [rI_uI, if_pos rfl, pk_us]
theorem n_Floats (h : pm_H) : ∃ h', (∀ Q, pGo 30 0 [some (.ref (rz h))] [] (aN h (1, 2) 2) Q = Q (none, h')) ∧ NW h h' 2 242 ∧ rK h' (rz h) = (1, 2) ∧ rP h' (rz h) 1 = some (rz h + 1) ∧ rK h' (rz h + 1) = (2, 240) ∧ rJ h' (rz h) 0 = 0 ∧ ∀ k, rI h' (rz h + 1) k = 0 := by
  have d1 : ¬ rz h = rz h + 1 := by omega
  have d2 : ¬ rz h + 1 = rz h := by omega
  have k1 : rK (aN h (1, 2) 2) (rz h) = (1, 2) := by rw [rK_aN, if_pos rfl]
  have e2 : 240 ≤ 100000 := by omega
  refine ⟨uP (aN (uJ (aN h (1, 2) 2) (rz h) 0 0) (2, 240) 240) (rz h) 1 (some (rz h + 1)), fun Q => ?_, ⟨?_, ?_, fun q hq => ?_⟩, ?_, ?_, ?_, ?_, fun k => ?_⟩
  · simp (disch := omega) only [k30_0, k30_1, k30_4, k30_5, k30_6, k30_9, k30_10, k30_13, k30_15, k30_18, if_true, if_false, ite_true, ite_false, not_true_eq_false, not_false_eq_true, true_or, or_true, false_or, or_false, and_self, ok_n0, ok_ni, ok_nr, ok_nl, va_rf_some, va_rf_none, true_and, and_true, List.length_nil, List.length_cons, Option.toList_some, Option.toList_none, List.cons_append, List.nil_append, rK_uA, rK_uI, rK_uJ, rK_uP, rP_uA, rP_uI, rP_uJ, rJ_uA, rJ_uI, rJ_uP, rI_uJ, rI_uP, rz_uA, rz_uI, rz_uJ, rz_uP, rs_uA, rs_uI, rs_uJ, rs_uP, Nat.reduceAdd, Nat.reduceMul, Nat.reduceSub, Nat.reduceLeDiff, Nat.reduceLT, Nat.reduceEqDiff, Nat.add_zero, Nat.zero_add, Nat.zero_le, k1, rz_aN, rK_aN, ar_n0, ar_cl, d1, e2]
  · rw [rz_uP, rz_aN, rz_uJ, rz_aN]
  · rw [rs_uP, rs_aN, rs_uJ, rs_aN]
  · exact (((SQ.aN h _ _ hq).tr (SQ.uJ _ _ _ (by omega))).tr (SQ.aN _ _ _ (by rw [rz_uJ, rz_aN]; omega))).tr (SQ.uP _ _ _ (by omega))
  · rw [rK_uP, rK_aN, rz_uJ, rz_aN, if_neg d1, rK_uJ]; exact k1
  · rw [rP_uPs, if_pos rfl]
  · rw [rK_uP, rK_aN, rz_uJ, rz_aN, if_pos rfl]
  · rw [rJ_uP, rJ_aN, rz_uJ, rz_aN, if_neg d1, rJ_uJ, if_pos rfl]
    simp only [vp_updL, if_true]
  · rw [rI_uP, rI_aN, rz_uJ, rz_aN, if_pos rfl]
/-! the screens -/
def IB (h0 : pm_H) (h : pm_H) (z : Nat) (i : Nat) : Prop := (rz h = z + 2 + i) ∧ (rs h = rs h0 + 10 + 4 * i) ∧ (∀ q, q < z → SQ h0 h q) ∧ (rK h z = (1, 7)) ∧ (rP h z 0 = some (z + 1)) ∧ (rK h (z + 1) = (4, 4)) ∧ (∀ j, j < i → rP h (z + 1) j = some (z + 2 + j)) ∧ (∀ j, j < i → rK h (z + 2 + j) = (1, 0) ∧ ∀ c, rI h (z + 2 + j) c = 0)
theorem IB.z {h0 : pm_H} {h : pm_H} {z : Nat} {i : Nat} (x_ : IB h0 h z i) : rz h = z + 2 + i := x_.1
theorem IB.s {h0 : pm_H} {h : pm_H} {z : Nat} {i : Nat} (x_ : IB h0 h z i) : rs h = rs h0 + 10 + 4 * i := x_.2.1
theorem IB.o {h0 : pm_H} {h : pm_H} {z : Nat} {i : Nat} (x_ : IB h0 h z i) : ∀ q, q < z → SQ h0 h q := x_.2.2.1
theorem IB.k {h0 : pm_H} {h : pm_H} {z : Nat} {i : Nat} (x_ : IB h0 h z i) : rK h z = (1, 7) := x_.2.2.2.1
theorem IB.a {h0 : pm_H} {h : pm_H} {z : Nat} {i : Nat} (x_ : IB h0 h z i) : rP h z 0 = some (z + 1) := x_.2.2.2.2.1
theorem IB.b {h0 : pm_H} {h : pm_H} {z : Nat} {i : Nat} (x_ : IB h0 h z i) : rK h (z + 1) = (4, 4) := x_.2.2.2.2.2.1
theorem IB.p {h0 : pm_H} {h : pm_H} {z : Nat} {i : Nat} (x_ : IB h0 h z i) : ∀ j, j < i → rP h (z + 1) j = some (z + 2 + j) := x_.2.2.2.2.2.2.1
theorem IB.x {h0 : pm_H} {h : pm_H} {z : Nat} {i : Nat} (x_ : IB h0 h z i) : ∀ j, j < i → rK h (z + 2 + j) = (1, 0) ∧ ∀ c, rI h (z + 2 + j) c = 0 := x_.2.2.2.2.2.2.2
theorem i_boxes {h0 : pm_H} {z : Nat} : ∀ m i, i + m = 4 → ∀ h, IB h0 h z i → ∃ h', IB h0 h' z 4 ∧ ∀ Q, pGo 73 14 [some (.ref z), some (.int (nI i))] [] h Q = pGo 73 38 [some (.ref z), some (.int (nI 4))] [] h' Q := by
  intro m
  induction m with
  | zero =>
    intro i hi h t
    have hi : i = 4 := by omega
    subst hi
    refine ⟨h, t, fun Q => ?_⟩
    rw [k73_14]
    simp (disch := omega) only [k73_15, k73_16, if_true, if_false, ite_true, ite_false, not_true_eq_false, not_false_eq_true, true_or, or_true, false_or, or_false, and_self, ok_n0, ok_ni, ok_nr, ok_nl, va_rf_some, va_rf_none, true_and, and_true, List.length_nil, List.length_cons, Option.toList_some, Option.toList_none, List.cons_append, List.nil_append, rK_uA, rK_uI, rK_uJ, rK_uP, rP_uA, rP_uI, rP_uJ, rJ_uA, rJ_uI, rJ_uP, rI_uJ, rI_uP, rz_uA, rz_uI, rz_uJ, rz_uP, rs_uA, rs_uI, rs_uJ, rs_uP, Nat.reduceAdd, Nat.reduceMul, Nat.reduceSub, Nat.reduceLeDiff, Nat.reduceLT, Nat.reduceEqDiff, Nat.add_zero, Nat.zero_add, Nat.zero_le, ar_le, Nat.le_refl]
  | succ m ih =>
    intro i hi h t
    have c1 : ¬ 4 ≤ i := by omega
    have i4 : i < 4 := by omega
    have d1 : ¬ z = rz h := by rw [t.z]; omega
    have d2 : ¬ z + 1 = rz h := by rw [t.z]; omega
    have kz : rK (aN h (1, 0) 4) (rz h) = (1, 0) := by rw [rK_aN, if_pos rfl]
    have kb : rK (aN h (1, 0) 4) (z + 1) = (4, 4) := by rw [rK_aN, if_neg d2]; exact t.b
    have t' : IB h0 (uP (aN h (1, 0) 4) (z + 1) i (some (rz h))) z (i + 1) := by
      refine ⟨by rw [rz_uP, rz_aN, t.z]; omega, by rw [rs_uP, rs_aN, t.s]; try omega, fun q hq => ((t.o q hq).tr (SQ.aN _ _ _ (by rw [t.z]; omega))).tr (SQ.uP _ _ _ (by omega)), ?_, ?_, kb, fun j hj => ?_, fun j hj => ?_⟩
      · rw [rK_uP, rK_aN, if_neg d1]; exact t.k
      · rw [rP_uPo _ _ _ (by omega), rP_aN, if_neg d1]; exact t.a
      · rw [rP_uPs]
        by_cases e : j = i
        · rw [if_pos e, t.z, e]
        · rw [if_neg e, rP_aN, if_neg d2]; exact t.p j (by omega)
      · rw [rK_uP, rI_uP, rK_aN, rI_aN]
        by_cases e : j = i
        · rw [if_pos (by rw [t.z]; omega), if_pos (by rw [t.z]; omega)]; exact ⟨rfl, fun _ => rfl⟩
        · rw [if_neg (by rw [t.z]; omega), if_neg (by rw [t.z]; omega)]; exact t.x j (by omega)
    obtain ⟨h', a, e⟩ := ih (i + 1) (by omega) _ t'
    refine ⟨h', a, fun Q => ?_⟩
    rw [← e Q, k73_14]
    simp (disch := omega) only [k73_0, k73_1, k73_4, k73_5, k73_6, k73_9, k73_12, k73_13, k73_15, k73_16, k73_19, k73_20, k73_23, k73_24, k73_27, k73_27i, k73_28, k73_31, k73_32, k73_35, k73_39, k73_42, k73_43, k73_44, k73_45, k73_46, k73_49, k73_52, k73_55, k73_56, k73_57, k73_59, k73_62, k73_63, k73_64, k73_67, k73_68, k73_69, k73_72, k73_73, k73_76, k73_76i, k73_77, k73_78, k73_81, k73_84, k73_85, k73_88, k73_88i, k73_89, k73_91, k73_94, k73_97, k73_98, k73_100, k73_102, k73_105, k73_106, k73_109, k73_110, k73_111, k73_112, k73_113, k73_116, k73_119, k73_122, s_Box_init, if_true, if_false, ite_true, ite_false, not_true_eq_false, not_false_eq_true, true_or, or_true, false_or, or_false, and_self, ok_n0, ok_ni, ok_nr, ok_nl, va_rf_some, va_rf_none, true_and, and_true, List.length_nil, List.length_cons, Option.toList_some, Option.toList_none, List.cons_append, List.nil_append, rK_uA, rK_uI, rK_uJ, rK_uP, rP_uA, rP_uI, rP_uJ, rJ_uA, rJ_uI, rJ_uP, rI_uJ, rI_uP, rz_uA, rz_uI, rz_uJ, rz_uP, rs_uA, rs_uI, rs_uJ, rs_uP, Nat.reduceAdd, Nat.reduceMul, Nat.reduceSub, Nat.reduceLeDiff, Nat.reduceLT, Nat.reduceEqDiff, Nat.add_zero, Nat.zero_add, Nat.zero_le, t.k, t.a, t.b, kz, kb, ar_le, ar_add, ar_okr, ar_cl, c1, i4, el_4]
theorem i_hid {h0 : pm_H} {z : Nat} (k0 : rK h0 z = (1, 7)) (k1 : rP h0 z 5 = some (z + 9)) (kk : rK h0 (z + 9) = (1, 5) ∧ rP h0 (z + 9) 0 = some (z + 10) ∧ rK h0 (z + 10) = (2, 9)) : ∀ m i, i + m = 9 → 1 ≤ i → ∀ h, FRD (z + 9) (z + 11) h0 h → rI h (z + 9) 1 = nI (i - 1) → (∀ k, k < i - 1 → rI h (z + 10) k = nI (k + 1)) → ∃ h', FRD (z + 9) (z + 11) h0 h' ∧ rI h' (z + 9) 1 = nI 8 ∧ (∀ k, k < 8 → rI h' (z + 10) k = nI (k + 1)) ∧ ∀ Q, pGo 73 99 [some (.ref z), some (.int (nI i))] [] h Q = Q (none, h') := by
  intro m
  induction m with
  | zero =>
    intro i hi i1 h f a b
    have hi : i = 9 := by omega
    subst hi
    refine ⟨h, f, a, b, fun Q => ?_⟩
    rw [k73_99]
    simp (disch := omega) only [k73_0, k73_1, k73_4, k73_5, k73_6, k73_9, k73_12, k73_13, k73_15, k73_16, k73_19, k73_20, k73_23, k73_24, k73_27, k73_27i, k73_28, k73_31, k73_32, k73_35, k73_39, k73_42, k73_43, k73_44, k73_45, k73_46, k73_49, k73_52, k73_55, k73_56, k73_57, k73_59, k73_62, k73_63, k73_64, k73_67, k73_68, k73_69, k73_72, k73_73, k73_76, k73_76i, k73_77, k73_78, k73_81, k73_84, k73_85, k73_88, k73_88i, k73_89, k73_91, k73_94, k73_97, k73_98, k73_100, k73_102, k73_105, k73_106, k73_109, k73_110, k73_111, k73_112, k73_113, k73_116, k73_119, k73_122, if_true, if_false, ite_true, ite_false, not_true_eq_false, not_false_eq_true, true_or, or_true, false_or, or_false, and_self, ok_n0, ok_ni, ok_nr, ok_nl, va_rf_some, va_rf_none, true_and, and_true, List.length_nil, List.length_cons, Option.toList_some, Option.toList_none, List.cons_append, List.nil_append, rK_uA, rK_uI, rK_uJ, rK_uP, rP_uA, rP_uI, rP_uJ, rJ_uA, rJ_uI, rJ_uP, rI_uJ, rI_uP, rz_uA, rz_uI, rz_uJ, rz_uP, rs_uA, rs_uI, rs_uJ, rs_uP, Nat.reduceAdd, Nat.reduceMul, Nat.reduceSub, Nat.reduceLeDiff, Nat.reduceLT, Nat.reduceEqDiff, Nat.add_zero, Nat.zero_add, Nat.zero_le, ar_le, Nat.le_refl]
  | succ m ih =>
    intro i hi i1 h f a b
    have c1 : ¬ 9 ≤ i := by omega
    have l : LN h (z + 9) (z + 10) 9 (i - 1) := ⟨by rw [f.fk]; exact kk.1, by rw [f.fp]; exact kk.2.1, by rw [f.fk]; exact kk.2.2, by omega, a, by omega, by omega⟩
    have x := s_Line_insertAt l (Nat.le_refl _) (by omega) (nI i)
    have f' := (f.tr (FRD.uA (a := z + 9) (b := z + 11) h (q := z + 10) (by omega) (by omega) (lins (rI h (z + 10)) (i - 1) (i - 1) (nI i)))).tr (FRD.uI (a := z + 9) (b := z + 11) _ (q := z + 9) (by omega) (by omega) 1 (nI (i - 1 + 1)))
    obtain ⟨h', g1, g2, g3, e⟩ := ih (i + 1) (by omega) (by omega) _ f' (by rw [rI_uI, if_pos rfl, pk_us]; congr 1; omega) (fun k hk => by
      rw [rI_uI, if_neg (by omega), rI_uA, if_pos rfl, lins_at _ _ (Nat.le_refl _)]
      by_cases e : k = i - 1
      · rw [if_pos e]; congr 1; omega
      · rw [if_neg e, if_neg (by omega)]; exact b k (by omega))
    refine ⟨h', g1, g2, g3, fun Q => ?_⟩
    rw [← e Q, k73_99]
    simp (disch := omega) only [k73_0, k73_1, k73_4, k73_5, k73_6, k73_9, k73_12, k73_13, k73_15, k73_16, k73_19, k73_20, k73_23, k73_24, k73_27, k73_27i, k73_28, k73_31, k73_32, k73_35, k73_39, k73_42, k73_43, k73_44, k73_45, k73_46, k73_49, k73_52, k73_55, k73_56, k73_57, k73_59, k73_62, k73_63, k73_64, k73_67, k73_68, k73_69, k73_72, k73_73, k73_76, k73_76i, k73_77, k73_78, k73_81, k73_84, k73_85, k73_88, k73_88i, k73_89, k73_91, k73_94, k73_97, k73_98, k73_100, k73_102, k73_105, k73_106, k73_109, k73_110, k73_111, k73_112, k73_113, k73_116, k73_119, k73_122, x, if_true, if_false, ite_true, ite_false, not_true_eq_false, not_false_eq_true, true_or, or_true, false_or, or_false, and_self, ok_n0, ok_ni, ok_nr, ok_nl, va_rf_some, va_rf_none, true_and, and_true, List.length_nil, List.length_cons, Option.toList_some, Option.toList_none, List.cons_append, List.nil_append, rK_uA, rK_uI, rK_uJ, rK_uP, rP_uA, rP_uI, rP_uJ, rJ_uA, rJ_uI, rJ_uP, rI_uJ, rI_uP, rz_uA, rz_uI, rz_uJ, rz_uP, rs_uA, rs_uI, rs_uJ, rs_uP, Nat.reduceAdd, Nat.reduceMul, Nat.reduceSub, Nat.reduceLeDiff, Nat.reduceLT, Nat.reduceEqDiff, Nat.add_zero, Nat.zero_add, Nat.zero_le, k0, k1, kk.1, f.fk, f.fp, ar_le, ar_add, ar_sub, c1]
theorem n_Screens (h : pm_H) : ∃ h', (∀ Q, pGo 73 0 [some (.ref (rz h)), none] [] (aN h (1, 7) 6) Q = Q (none, h')) ∧ NW h h' 11 47 ∧ SCK h' (rz h) ∧ rI h' (rz h) 2 = nI 1 ∧ rI h' (rz h) 3 = nI 0 ∧ rI h' (rz h + 7) 1 = nI 0 ∧ rI h' (rz h + 9) 1 = nI 8 ∧ rI h' (rz h + 6) 0 = nI 0 ∧ (∀ k, k < 8 → rI h' (rz h + 10) k = nI (k + 1)) ∧ rI h' (rz h + 2) 0 = nI 0 ∧ rI h' (rz h + 2) 1 = nI 0 ∧ rI h' (rz h + 2) 2 = nI 800 ∧ rI h' (rz h + 2) 3 = nI 600 := by
  generalize hz : rz h = z
  have e4 : 4 ≤ 100000 := by omega
  have k1 : rK (aN h (1, 7) 6) z = (1, 7) := by rw [rK_aN, if_pos hz.symm]
  have b0 : IB h (uP (aN (aN h (1, 7) 6) (4, 4) 4) z 0 (some (z + 1))) z 0 := by
    refine ⟨by rw [rz_uP, rz_aN, rz_aN, hz], by rw [rs_uP, rs_aN, rs_aN], fun q hq => ((SQ.aN h _ _ (by omega)).tr (SQ.aN _ _ _ (by rw [rz_aN]; omega))).tr (SQ.uP _ _ _ (by omega)), ?_, ?_, ?_, fun j hj => absurd hj (by omega), fun j hj => absurd hj (by omega)⟩
    · rw [rK_uP, rK_aN, rz_aN, if_neg (by omega)]; exact k1
    · rw [rP_uPs, if_pos rfl]
    · rw [rK_uP, rK_aN, rz_aN, if_pos (by omega)]
  obtain ⟨h1, t, e1⟩ := i_boxes 4 0 (by omega) _ b0
  have xb := s_Box_put (h := h1) (a := z + 2) (t.x 0 (by omega)).1 (nI 0) (nI 0) (nI 800) (nI 600)
  generalize hh2 : uA h1 (z + 2) (bx4 (rI h1 (z + 2)) (nI 0) (nI 0) (nI 800) (nI 600)) = h2 at xb
  have z2 : rz h2 = z + 6 := by rw [← hh2, rz_uA, t.z]
  have s2 : rs h2 = rs h + 26 := by rw [← hh2, rs_uA, t.s]
  have q2 : ∀ q, ¬ q = z + 2 → SQ h1 h2 q := fun q hq => by rw [← hh2]; exact SQ.uA _ _ hq
  have K2 : rK h2 = rK h1 := by rw [← hh2, rK_uA]
  have P2 : rP h2 = rP h1 := by rw [← hh2, rP_uA]
  -- the workspaces, the numbers
  generalize hh3 : uI (uI (uP (aN h2 (2, 4) 4) z 1 (some (z + 6))) z 2 (nI 1)) z 3 (nI 0) = h3
  have z3 : rz h3 = z + 7 := by rw [← hh3, rz_uI, rz_uI, rz_uP, rz_aN, z2]
  have s3 : rs h3 = rs h + 30 := by rw [← hh3, rs_uI, rs_uI, rs_uP, rs_aN, s2]
  have q3 : ∀ q, ¬ q = z → q < z + 6 → SQ h2 h3 q := fun q hq h6 => by rw [← hh3]; exact (((SQ.aN _ _ _ (by omega)).tr (SQ.uP _ _ _ hq)).tr (SQ.uI _ _ _ hq)).tr (SQ.uI _ _ _ hq)
  have K3 : rK h3 z = (1, 7) := by rw [← hh3, rK_uI, rK_uI, rK_uP, rK_aN, if_neg (by omega), K2]; exact t.k
  have K36 : rK h3 (z + 6) = (2, 4) := by rw [← hh3, rK_uI, rK_uI, rK_uP, rK_aN, if_pos (by omega)]
  have I36 : rI h3 (z + 6) 0 = nI 0 := by
    rw [← hh3, rI_uI, if_neg (by omega), rI_uI, if_neg (by omega), rI_uP, rI_aN, if_pos (by omega)]; rfl
  have I32 : rI h3 z 2 = nI 1 := by rw [← hh3, rI_uI, if_pos rfl, upd_at, if_neg (by omega), rI_uI, if_pos rfl, pk_us]
  have I33 : rI h3 z 3 = nI 0 := by rw [← hh3, rI_uI, if_pos rfl, pk_us]
  have P30 : rP h3 z 0 = some (z + 1) := by rw [← hh3, rP_uI, rP_uI, rP_uPs, if_neg (by omega), rP_aN, if_neg (by omega), P2]; exact t.a
  have P31 : rP h3 z 1 = some (z + 6) := by rw [← hh3, rP_uI, rP_uI, rP_uPs, if_pos rfl]
  obtain ⟨h4, x4, ⟨w1, w2, w3⟩, l1, l2, l3, l4, l5⟩ := n_Line h3 (n := 4) (by omega)
  rw [z3] at x4 w1 w3 l1 l2 l3 l4 l5
  generalize hh5 : uP h4 z 4 (some (z + 7)) = h5
  have z5 : rz h5 = z + 9 := by rw [← hh5, rz_uP, w1]
  have s5 : rs h5 = rs h + 36 := by rw [← hh5, rs_uP, w2, s3]
  have q5 : ∀ q, ¬ q = z → q < z + 7 → SQ h3 h5 q := fun q hq h6 => by rw [← hh5]; exact (w3 q (by omega)).tr (SQ.uP _ _ _ hq)
  have v5 := w3 z (by omega)
  have K5 : rK h5 z = (1, 7) := by rw [← hh5, rK_uP, v5.1]; exact K3
  have P5 : ∀ j, ¬ j = 4 → rP h5 z j = rP h3 z j := fun j hj => by rw [← hh5, rP_uPs, if_neg hj, v5.2.2.2]
  have P54 : rP h5 z 4 = some (z + 7) := by rw [← hh5, rP_uPs, if_pos rfl]
  have I5 : rI h5 z = rI h3 z := by rw [← hh5, rI_uP]; exact v5.2.1
  have L5 : LNC h5 (z + 7) 4 := by
    rw [← hh5]
    exact ⟨l1, by rw [rP_uPo _ _ _ (by omega)]; exact l2, l3, l4, l5⟩
  obtain ⟨h6, x6, ⟨y1, y2, y3⟩, m1, m2, m3, m4, m5⟩ := n_Line h5 (n := 9) (by omega)
  rw [z5] at x6 y1 y3 m1 m2 m3 m4 m5
  generalize hh7 : uP h6 z 5 (some (z + 9)) = h7
  have z7 : rz h7 = z + 11 := by rw [← hh7, rz_uP, y1]
  have s7 : rs h7 = rs h + 47 := by rw [← hh7, rs_uP, y2, s5]
  have q7 : ∀ q, ¬ q = z → q < z + 9 → SQ h5 h7 q := fun q hq h6 => by rw [← hh7]; exact (y3 q (by omega)).tr (SQ.uP _ _ _ hq)
  have v7 := y3 z (by omega)
  have K7 : rK h7 z = (1, 7) := by rw [← hh7, rK_uP, v7.1]; exact K5
  have P7 : ∀ j, ¬ j = 5 → rP h7 z j = rP h5 z j := fun j hj => by rw [← hh7, rP_uPs, if_neg hj, v7.2.2.2]
  have P75 : rP h7 z 5 = some (z + 9) := by rw [← hh7, rP_uPs, if_pos rfl]
  have I7 : rI h7 z = rI h5 z := by rw [← hh7, rI_uP]; exact v7.2.1
  have L7 : LNC h7 (z + 9) 9 := by
    rw [← hh7]
    exact ⟨m1, by rw [rP_uPo _ _ _ (by omega)]; exact m2, m3, m4, m5⟩
  obtain ⟨h8, f8, a8, b8, e8⟩ := i_hid (h0 := h7) (z := z) K7 P75 ⟨L7.1, L7.2.1, L7.2.2.1⟩ 8 1 (by omega) (by omega) h7 (FRD.rf _ _ _) L7.2.2.2.1 (fun k hk => absurd hk (by omega))
  have q8 : ∀ q, q < z + 9 → SQ h7 h8 q := fun q hq => ⟨by rw [f8.fk], f8.fi q (by omega), f8.fj q (by omega), by rw [f8.fp]⟩
  have c17 : ∀ q, ¬ q = z → ¬ q = z + 2 → q < z + 6 → SQ h1 h8 q := fun q h1 h2 h3 => ((((q2 q h2).tr (q3 q h1 h3)).tr (q5 q h1 (by omega))).tr (q7 q h1 (by omega))).tr (q8 q (by omega))
  have c27 : ∀ q, ¬ q = z → q < z + 6 → SQ h2 h8 q := fun q h1 h3 => (((q3 q h1 h3).tr (q5 q h1 (by omega))).tr (q7 q h1 (by omega))).tr (q8 q (by omega))
  have c37 : ∀ q, ¬ q = z → q < z + 7 → SQ h3 h8 q := fun q h1 h3 => ((q5 q h1 h3).tr (q7 q h1 (by omega))).tr (q8 q (by omega))
  have c57 : ∀ q, ¬ q = z → q < z + 9 → SQ h5 h8 q := fun q h1 h3 => (q7 q h1 h3).tr (q8 q (by omega))
  have v8 := q8 z (by omega)
  refine ⟨h8, fun Q => ?_, ⟨?_, ?_, fun q hq => ?_⟩, ⟨?_, ?_, ?_, fun j hj => ?_, fun j hj => ?_, ?_, ?_, ?_, ?_, ?_, ?_, ?_, ?_, ?_, ?_⟩, ?_, ?_, ?_, a8, ?_, b8, ?_, ?_, ?_, ?_⟩
  · rw [k73_0]
    simp (disch := omega) only [k73_1, k73_4, k73_5, k73_6, k73_9, k73_12, k73_13, if_true, if_false, ite_true, ite_false, not_true_eq_false, not_false_eq_true, true_or, or_true, false_or, or_false, and_self, ok_n0, ok_ni, ok_nr, ok_nl, va_rf_some, va_rf_none, true_and, and_true, List.length_nil, List.length_cons, Option.toList_some, Option.toList_none, List.cons_append, List.nil_append, rK_uA, rK_uI, rK_uJ, rK_uP, rP_uA, rP_uI, rP_uJ, rJ_uA, rJ_uI, rJ_uP, rI_uJ, rI_uP, rz_uA, rz_uI, rz_uJ, rz_uP, rs_uA, rs_uI, rs_uJ, rs_uP, Nat.reduceAdd, Nat.reduceMul, Nat.reduceSub, Nat.reduceLeDiff, Nat.reduceLT, Nat.reduceEqDiff, Nat.add_zero, Nat.zero_add, Nat.zero_le, ar_n0, ar_cl, e4, rz_aN, rK_aN, hz, show ¬ z = z + 1 by omega, e1 Q]
    rw [k73_38]
    simp (disch := omega) only [k73_1, k73_4, k73_5, k73_6, k73_9, k73_12, k73_13, k73_15, k73_16, k73_19, k73_20, k73_23, k73_24, k73_27, k73_27i, k73_28, k73_31, k73_32, k73_35, k73_39, k73_42, k73_43, k73_44, k73_45, k73_46, k73_49, k73_52, k73_55, k73_56, k73_57, k73_59, k73_62, k73_63, k73_64, k73_67, k73_68, k73_69, k73_72, k73_73, k73_76, k73_76i, k73_77, k73_78, k73_81, k73_84, k73_85, k73_88, k73_88i, k73_89, k73_91, k73_94, k73_97, k73_98, k73_100, k73_102, k73_105, k73_106, k73_109, k73_110, k73_111, k73_112, k73_113, k73_116, k73_119, k73_122, xb, if_true, if_false, ite_true, ite_false, not_true_eq_false, not_false_eq_true, true_or, or_true, false_or, or_false, and_self, ok_n0, ok_ni, ok_nr, ok_nl, va_rf_some, va_rf_none, true_and, and_true, List.length_nil, List.length_cons, Option.toList_some, Option.toList_none, List.cons_append, List.nil_append, rK_uA, rK_uI, rK_uJ, rK_uP, rP_uA, rP_uI, rP_uJ, rJ_uA, rJ_uI, rJ_uP, rI_uJ, rI_uP, rz_uA, rz_uI, rz_uJ, rz_uP, rs_uA, rs_uI, rs_uJ, rs_uP, Nat.reduceAdd, Nat.reduceMul, Nat.reduceSub, Nat.reduceLeDiff, Nat.reduceLT, Nat.reduceEqDiff, Nat.add_zero, Nat.zero_add, Nat.zero_le, t.k, t.a, t.b, t.p 0 (show 0 < 4 by omega), (t.x 0 (show 0 < 4 by omega)).1, ar_okr, ar_n0, ar_cl, e4, K2, P2, z2, rz_aN, rK_aN, show ¬ z = z + 6 by omega, show z + 6 + 1 = z + 7 from rfl, show z + 7 + 2 = z + 9 from rfl, w1, hh3, z3, x4, v5.1, K3, hh5, z5, x6, v7.1, K5, hh7, e8 Q]
  · rw [f8.fz, z7]; rw [hz]
  · rw [f8.fs, s7]
  · exact ((t.o q (by omega)).tr (c17 q (by omega) (by omega) (by omega)))
  · rw [v8.1]; exact K7
  · rw [v8.2.2.2, P7 _ (by omega), P5 _ (by omega)]; exact P30
  · rw [(c17 (z + 1) (by omega) (by omega) (by omega)).1]; exact t.b
  · rw [(c17 (z + 1) (by omega) (by omega) (by omega)).2.2.2]; exact t.p j hj
  · rw [(c27 (z + 2 + j) (by omega) (by omega)).1, K2]; exact (t.x j hj).1
  · rw [v8.2.2.2, P7 _ (by omega), P5 _ (by omega)]; exact P31
  · rw [(c37 (z + 6) (by omega) (by omega)).1]; exact K36
  · rw [v8.2.2.2, P7 _ (by omega)]; exact P54
  · rw [(c57 (z + 7) (by omega) (by omega)).1]; exact L5.1
  · rw [(c57 (z + 7) (by omega) (by omega)).2.2.2]; exact L5.2.1
  · rw [(c57 (z + 8) (by omega) (by omega)).1]; exact L5.2.2.1
  · rw [v8.2.2.2]; exact P75
  · rw [f8.fk]; exact L7.1
  · rw [f8.fp]; exact L7.2.1
  · rw [f8.fk]; exact L7.2.2.1
  · rw [v8.2.1, I7, I5]; exact I32
  · rw [v8.2.1, I7, I5]; exact I33
  · rw [(c57 (z + 7) (by omega) (by omega)).2.1]; exact L5.2.2.2.1
  · rw [(c37 (z + 6) (by omega) (by omega)).2.1]; exact I36
  · rw [(c27 (z + 2) (by omega) (by omega)).2.1, ← hh2, rI_uA, if_pos rfl]; exact bx4_0 _ _ _ _ _
  · rw [(c27 (z + 2) (by omega) (by omega)).2.1, ← hh2, rI_uA, if_pos rfl]; exact bx4_1 _ _ _ _ _
  · rw [(c27 (z + 2) (by omega) (by omega)).2.1, ← hh2, rI_uA, if_pos rfl]; exact bx4_2 _ _ _ _ _
  · rw [(c27 (z + 2) (by omega) (by omega)).2.1, ← hh2, rI_uA, if_pos rfl]; exact bx4_3 _ _ _ _ _
