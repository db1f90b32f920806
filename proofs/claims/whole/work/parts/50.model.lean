/-! THE MODEL: its one row of ints, and the vector at its offset s -/
def MK (h : pm_H) (M : Nat) : Prop := rK h M = (1, 9) ∧ rP h M 0 = some (M + 1) ∧ rK h (M + 1) = (2, 41160) ∧ rP h M 4 = some (M + 2) ∧ rK h (M + 2) = (2, 16) ∧ rP h M 6 = some (M + 3) ∧ rK h (M + 3) = (2, 9) ∧ rP h M 7 = some (M + 4) ∧ rK h (M + 4) = (2, 60) ∧ rP h M 8 = some (M + 5) ∧ rK h (M + 5) = (2, 60) ∧ rP h M 9 = some (M + 6) ∧ rK h (M + 6) = (2, 60) ∧ rP h M 10 = some (M + 7) ∧ rK h (M + 7) = (2, 60) ∧ rP h M 11 = some (M + 8) ∧ rK h (M + 8) = (2, 60)
def lft (F : Nat → Int32) (s : Nat) (v : Nat → Int32) : Nat → Int32 := fun j => if s ≤ j then v (j - s) else F j
theorem lft_at (F : Nat → Int32) (s : Nat) (v : Nat → Int32) (e : Nat) : lft F s v (s + e) = v e := by
  simp only [lft, Nat.le_add_right, if_true, Nat.add_sub_cancel_left]
theorem lft_upd (F : Nat → Int32) (s : Nat) (v : Nat → Int32) (e : Nat) (x : Int32) : upd (lft F s v) (s + e) x = lft F s (upd v e x) := by
  funext j
  simp only [upd, lft]
  by_cases h1 : s ≤ j
  · by_cases h2 : j = s + e
    · subst h2; simp
    · have h3 : ¬ j - s = e := by omega
      simp [h1, h2, h3]
  · have h2 : ¬ j = s + e := by omega
    simp [h1, h2]
theorem lft_lft (F : Nat → Int32) (s : Nat) (v w : Nat → Int32) : lft (lft F s v) s w = lft F s w := by
  funext j
  simp only [lft]
  by_cases h1 : s ≤ j <;> simp [h1]
/-- the heap whose model M holds the vector v at s -/
def HM (h : pm_H) (M : Nat) (F : Nat → Int32) (s : Nat) (v : Nat → Int32) : pm_H := uA h (M + 1) (lft F s v)
theorem rK_HM (h : pm_H) (M : Nat) (F : Nat → Int32) (s : Nat) (v : Nat → Int32) : rK (HM h M F s v) = rK h := rfl
theorem rP_HM (h : pm_H) (M : Nat) (F : Nat → Int32) (s : Nat) (v : Nat → Int32) : rP (HM h M F s v) = rP h := rfl
theorem rJ_HM (h : pm_H) (M : Nat) (F : Nat → Int32) (s : Nat) (v : Nat → Int32) : rJ (HM h M F s v) = rJ h := rfl
theorem rI_HM (h : pm_H) (M : Nat) (F : Nat → Int32) (s : Nat) (v : Nat → Int32) (e : Nat) : rI (HM h M F s v) (M + 1) (s + e) = v e := by
  rw [HM, rI_uA, if_pos rfl, lft_at]
theorem rI_HMo (h : pm_H) (M : Nat) (F : Nat → Int32) (s : Nat) (v : Nat → Int32) {b : Nat} (hb : ¬ b = M + 1) : rI (HM h M F s v) b = rI h b := by
  rw [HM, rI_uA, if_neg hb]
theorem rI_HM0 (h : pm_H) (M : Nat) (F : Nat → Int32) (s : Nat) (v : Nat → Int32) : rI (HM h M F s v) M = rI h M := rI_HMo h M F s v (by omega)
theorem uI_HM (h : pm_H) (M : Nat) (F : Nat → Int32) (s : Nat) (v : Nat → Int32) (e : Nat) (x : Int32) : uI (HM h M F s v) (M + 1) (s + e) x = HM h M F s (upd v e x) := by
  rw [HM, uI_uA, lft_upd]; rfl
theorem uI_HM0 (h : pm_H) (M : Nat) (F : Nat → Int32) (s : Nat) (v : Nat → Int32) (k : Nat) (x : Int32) : uI (HM h M F s v) M k x = HM (uI h M k x) M F s v := by
  rw [HM, HM, uA_uI_comm (by omega)]
theorem HM_of {h : pm_H} {M s : Nat} {v : Nat → Int32} (hv : ∀ e, rI h (M + 1) (s + e) = v e) : h = HM h M (rI h (M + 1)) s v := by
  have : lft (rI h (M + 1)) s v = rI h (M + 1) := by
    funext j
    simp only [lft]
    by_cases h1 : s ≤ j
    · rw [if_pos h1, ← hv, show s + (j - s) = j by omega]
    · rw [if_neg h1]
  rw [HM, this, uA_self]
theorem HM_HMF (h : pm_H) (M : Nat) (F : Nat → Int32) (s : Nat) (v w : Nat → Int32) : HM (HM h M F s v) M F s w = HM h M F s w := by
  rw [HM, HM, HM, uA_uA]
theorem HM_HM (h : pm_H) (M : Nat) (F : Nat → Int32) (s : Nat) (v w : Nat → Int32) : HM (HM h M F s v) M (lft F s v) s w = HM h M F s w := by
  rw [HM, HM, HM, uA_uA, lft_lft]
/-- the model M stands at s with the vector v -/
def MV (h : pm_H) (M s : Nat) (v : Nat → Int32) : Prop := MK h M ∧ rI h M 3 = nI s ∧ s ≤ 40180 ∧ ∀ e, rI h (M + 1) (s + e) = v e
theorem MV.HM {h : pm_H} {M s : Nat} {v : Nat → Int32} (t : MV h M s v) (F : Nat → Int32) (u : Nat → Int32) : MV (HM h M F s u) M s u := by
  obtain ⟨t1, t2, t3, t4⟩ := t
  exact ⟨t1, by rw [rI_HM0]; exact t2, t3, fun e => rI_HM _ _ _ _ _ e⟩
theorem s_isIn (x y : Int32) (h : pm_H) (Q : Option Value × pm_H → Prop) : pGo 122 0 [some (.int x), some (.int y)] [] h Q = Q (some (.int (nb (decide (nI 0 ≤ x ∧ x < y)))), h) := by
  have e1 : x < nI 0 ↔ ¬ nI 0 ≤ x := by rw [Int32.not_le]
  have e2 : y ≤ x ↔ ¬ x < y := by rw [Int32.not_lt]
  simp only [k122_0, k122_1, k122_4, k122_5, k122_6, k122_9, k122_10, k122_13, k122_14, if_true, if_false, ite_true, ite_false, not_true_eq_false, not_false_eq_true, true_or, or_true, false_or, or_false, and_self, ok_n0, ok_ni, ok_nr, ok_nl, va_rf_some, va_rf_none, true_and, and_true, List.length_nil, List.length_cons, Option.toList_some, Option.toList_none, List.cons_append, List.nil_append, rK_uA, rK_uI, rK_uJ, rK_uP, rP_uA, rP_uI, rP_uJ, rJ_uA, rJ_uI, rJ_uP, rI_uJ, rI_uP, rz_uA, rz_uI, rz_uJ, rz_uP, rs_uA, rs_uI, rs_uJ, rs_uP, Nat.reduceAdd, Nat.reduceMul, Nat.reduceSub, Nat.reduceLeDiff, Nat.reduceLT, Nat.reduceEqDiff, Nat.add_zero, Nat.zero_add, Nat.zero_le, e1, e2]
  by_cases c1 : nI 0 ≤ x
  · by_cases c2 : x < y
    · simp only [c1, c2, if_true, if_false, ite_true, ite_false, not_true_eq_false, not_false_eq_true, true_or, or_true, false_or, or_false, and_self, ok_n0, ok_ni, ok_nr, ok_nl, va_rf_some, va_rf_none, true_and, and_true, List.length_nil, List.length_cons, Option.toList_some, Option.toList_none, List.cons_append, List.nil_append, rK_uA, rK_uI, rK_uJ, rK_uP, rP_uA, rP_uI, rP_uJ, rJ_uA, rJ_uI, rJ_uP, rI_uJ, rI_uP, rz_uA, rz_uI, rz_uJ, rz_uP, rs_uA, rs_uI, rs_uJ, rs_uP, Nat.reduceAdd, Nat.reduceMul, Nat.reduceSub, Nat.reduceLeDiff, Nat.reduceLT, Nat.reduceEqDiff, Nat.add_zero, Nat.zero_add, Nat.zero_le, decide_true, nb_t]
    · simp only [c1, c2, if_true, if_false, ite_true, ite_false, not_true_eq_false, not_false_eq_true, true_or, or_true, false_or, or_false, and_self, ok_n0, ok_ni, ok_nr, ok_nl, va_rf_some, va_rf_none, true_and, and_true, List.length_nil, List.length_cons, Option.toList_some, Option.toList_none, List.cons_append, List.nil_append, rK_uA, rK_uI, rK_uJ, rK_uP, rP_uA, rP_uI, rP_uJ, rJ_uA, rJ_uI, rJ_uP, rI_uJ, rI_uP, rz_uA, rz_uI, rz_uJ, rz_uP, rs_uA, rs_uI, rs_uJ, rs_uP, Nat.reduceAdd, Nat.reduceMul, Nat.reduceSub, Nat.reduceLeDiff, Nat.reduceLT, Nat.reduceEqDiff, Nat.add_zero, Nat.zero_add, Nat.zero_le, and_false, decide_false, nb_f]
  · simp only [c1, if_true, if_false, ite_true, ite_false, not_true_eq_false, not_false_eq_true, true_or, or_true, false_or, or_false, and_self, ok_n0, ok_ni, ok_nr, ok_nl, va_rf_some, va_rf_none, true_and, and_true, List.length_nil, List.length_cons, Option.toList_some, Option.toList_none, List.cons_append, List.nil_append, rK_uA, rK_uI, rK_uJ, rK_uP, rP_uA, rP_uI, rP_uJ, rJ_uA, rJ_uI, rJ_uP, rI_uJ, rI_uP, rz_uA, rz_uI, rz_uJ, rz_uP, rs_uA, rs_uI, rs_uJ, rs_uP, Nat.reduceAdd, Nat.reduceMul, Nat.reduceSub, Nat.reduceLeDiff, Nat.reduceLT, Nat.reduceEqDiff, Nat.add_zero, Nat.zero_add, Nat.zero_le, false_and, decide_false, nb_f]
theorem s_space {h : pm_H} {M s : Nat} {v : Nat → Int32} (t : MV h M s v) (i : Nat) (Q : Option Value × pm_H → Prop) : pGo 120 0 [some (.ref M), some (.int (nI i))] [] h Q = Q (some (.int (nI (s + (35 + 65 * i)))), h) := by
  obtain ⟨t1, t2, t3, t4⟩ := t
  simp (disch := omega) only [k120_0, k120_1, k120_4, k120_6, k120_7, k120_9, k120_10, k120_11, k120_12, if_true, if_false, ite_true, ite_false, not_true_eq_false, not_false_eq_true, true_or, or_true, false_or, or_false, and_self, ok_n0, ok_ni, ok_nr, ok_nl, va_rf_some, va_rf_none, true_and, and_true, List.length_nil, List.length_cons, Option.toList_some, Option.toList_none, List.cons_append, List.nil_append, rK_uA, rK_uI, rK_uJ, rK_uP, rP_uA, rP_uI, rP_uJ, rJ_uA, rJ_uI, rJ_uP, rI_uJ, rI_uP, rz_uA, rz_uI, rz_uJ, rz_uP, rs_uA, rs_uI, rs_uJ, rs_uP, Nat.reduceAdd, Nat.reduceMul, Nat.reduceSub, Nat.reduceLeDiff, Nat.reduceLT, Nat.reduceEqDiff, Nat.add_zero, Nat.zero_add, Nat.zero_le, t1.1, t2, ar_add, ar_mul, Nat.add_assoc s]
theorem s_seat {h : pm_H} {M s : Nat} {v : Nat → Int32} (t : MV h M s v) (i : Nat) (Q : Option Value × pm_H → Prop) : pGo 121 0 [some (.ref M), some (.int (nI i))] [] h Q = Q (some (.int (nI (s + (620 + 6 * i)))), h) := by
  obtain ⟨t1, t2, t3, t4⟩ := t
  simp (disch := omega) only [k121_0, k121_1, k121_4, k121_7, k121_8, k121_10, k121_11, k121_12, k121_13, if_true, if_false, ite_true, ite_false, not_true_eq_false, not_false_eq_true, true_or, or_true, false_or, or_false, and_self, ok_n0, ok_ni, ok_nr, ok_nl, va_rf_some, va_rf_none, true_and, and_true, List.length_nil, List.length_cons, Option.toList_some, Option.toList_none, List.cons_append, List.nil_append, rK_uA, rK_uI, rK_uJ, rK_uP, rP_uA, rP_uI, rP_uJ, rJ_uA, rJ_uI, rJ_uP, rI_uJ, rI_uP, rz_uA, rz_uI, rz_uJ, rz_uP, rs_uA, rs_uI, rs_uJ, rs_uP, Nat.reduceAdd, Nat.reduceMul, Nat.reduceSub, Nat.reduceLeDiff, Nat.reduceLT, Nat.reduceEqDiff, Nat.add_zero, Nat.zero_add, Nat.zero_le, t1.1, t2, ar_add, ar_mul, Nat.add_assoc s]
/-- is window w there -/
def thereV (v : Nat → Int32) (w : Int32) : Bool := decide (nI 0 ≤ w ∧ w < nI 60) && decide (v (620 + 6 * w.toNatClampNeg) = nI 1)
theorem s_isThere {h : pm_H} {M s : Nat} {v : Nat → Int32} (t : MV h M s v) (w : Int32) (Q : Option Value × pm_H → Prop) : pGo 126 0 [some (.ref M), some (.int w)] [] h Q = Q (some (.int (nb (thereV v w))), h) := by
  obtain ⟨t1, t2, t3, t4⟩ := id t
  simp (disch := omega) only [k126_0, k126_1, k126_3, k126_6, k126_9, k126_10, k126_13, k126_14, k126_15, k126_18, k126_19, k126_20, k126_23, k126_24, k126_27, k126_28, s_isIn, if_true, if_false, ite_true, ite_false, not_true_eq_false, not_false_eq_true, true_or, or_true, false_or, or_false, and_self, ok_n0, ok_ni, ok_nr, ok_nl, va_rf_some, va_rf_none, true_and, and_true, List.length_nil, List.length_cons, Option.toList_some, Option.toList_none, List.cons_append, List.nil_append, rK_uA, rK_uI, rK_uJ, rK_uP, rP_uA, rP_uI, rP_uJ, rJ_uA, rJ_uI, rJ_uP, rI_uJ, rI_uP, rz_uA, rz_uI, rz_uJ, rz_uP, rs_uA, rs_uI, rs_uJ, rs_uP, Nat.reduceAdd, Nat.reduceMul, Nat.reduceSub, Nat.reduceLeDiff, Nat.reduceLT, Nat.reduceEqDiff, Nat.add_zero, Nat.zero_add, Nat.zero_le, t1.1, t1.2.1, nb_0, thereV]
  rcases ar_ix w (n := 60) (by omega) with ⟨h1, h2⟩ | ⟨h1, h2, h3⟩ | ⟨j, hj, rfl⟩
  · have c1 : ¬ nI 0 ≤ w := by rw [Int32.not_le]; exact h1
    simp only [c1, if_true, if_false, ite_true, ite_false, not_true_eq_false, not_false_eq_true, true_or, or_true, false_or, or_false, and_self, ok_n0, ok_ni, ok_nr, ok_nl, va_rf_some, va_rf_none, true_and, and_true, List.length_nil, List.length_cons, Option.toList_some, Option.toList_none, List.cons_append, List.nil_append, rK_uA, rK_uI, rK_uJ, rK_uP, rP_uA, rP_uI, rP_uJ, rJ_uA, rJ_uI, rJ_uP, rI_uJ, rI_uP, rz_uA, rz_uI, rz_uJ, rz_uP, rs_uA, rs_uI, rs_uJ, rs_uP, Nat.reduceAdd, Nat.reduceMul, Nat.reduceSub, Nat.reduceLeDiff, Nat.reduceLT, Nat.reduceEqDiff, Nat.add_zero, Nat.zero_add, Nat.zero_le, false_and, decide_false, Bool.false_and, nb_f]
  · have c1 : ¬ w < nI 60 := by rw [Int32.not_lt]; exact h2
    simp only [c1, if_true, if_false, ite_true, ite_false, not_true_eq_false, not_false_eq_true, true_or, or_true, false_or, or_false, and_self, ok_n0, ok_ni, ok_nr, ok_nl, va_rf_some, va_rf_none, true_and, and_true, List.length_nil, List.length_cons, Option.toList_some, Option.toList_none, List.cons_append, List.nil_append, rK_uA, rK_uI, rK_uJ, rK_uP, rP_uA, rP_uI, rP_uJ, rJ_uA, rJ_uI, rJ_uP, rI_uJ, rI_uP, rz_uA, rz_uI, rz_uJ, rz_uP, rs_uA, rs_uI, rs_uJ, rs_uP, Nat.reduceAdd, Nat.reduceMul, Nat.reduceSub, Nat.reduceLeDiff, Nat.reduceLT, Nat.reduceEqDiff, Nat.add_zero, Nat.zero_add, Nat.zero_le, and_false, decide_false, Bool.false_and, nb_f]
  · have c1 : s + (620 + 6 * j) < 41160 := by omega
    simp (disch := omega) only [s_seat t, ar_le, ar_lt, ar_oki, ar_cl, hj, t1.2.2.1, c1, t4, k126_0, k126_1, k126_3, k126_6, k126_9, k126_10, k126_13, k126_14, k126_15, k126_18, k126_19, k126_20, k126_23, k126_24, k126_27, k126_28, if_true, if_false, ite_true, ite_false, not_true_eq_false, not_false_eq_true, true_or, or_true, false_or, or_false, and_self, ok_n0, ok_ni, ok_nr, ok_nl, va_rf_some, va_rf_none, true_and, and_true, List.length_nil, List.length_cons, Option.toList_some, Option.toList_none, List.cons_append, List.nil_append, rK_uA, rK_uI, rK_uJ, rK_uP, rP_uA, rP_uI, rP_uJ, rJ_uA, rJ_uI, rJ_uP, rI_uJ, rI_uP, rz_uA, rz_uI, rz_uJ, rz_uP, rs_uA, rs_uI, rs_uJ, rs_uP, Nat.reduceAdd, Nat.reduceMul, Nat.reduceSub, Nat.reduceLeDiff, Nat.reduceLT, Nat.reduceEqDiff, Nat.add_zero, Nat.zero_add, Nat.zero_le, decide_true, Bool.true_and, reduceCtorEq]
    by_cases c2 : v (620 + 6 * j) = nI 1
    · simp only [c2, if_true, if_false, ite_true, ite_false, not_true_eq_false, not_false_eq_true, true_or, or_true, false_or, or_false, and_self, ok_n0, ok_ni, ok_nr, ok_nl, va_rf_some, va_rf_none, true_and, and_true, List.length_nil, List.length_cons, Option.toList_some, Option.toList_none, List.cons_append, List.nil_append, rK_uA, rK_uI, rK_uJ, rK_uP, rP_uA, rP_uI, rP_uJ, rJ_uA, rJ_uI, rJ_uP, rI_uJ, rI_uP, rz_uA, rz_uI, rz_uJ, rz_uP, rs_uA, rs_uI, rs_uJ, rs_uP, Nat.reduceAdd, Nat.reduceMul, Nat.reduceSub, Nat.reduceLeDiff, Nat.reduceLT, Nat.reduceEqDiff, Nat.add_zero, Nat.zero_add, Nat.zero_le, decide_true, nb_t]
    · simp only [c2, if_true, if_false, ite_true, ite_false, not_true_eq_false, not_false_eq_true, true_or, or_true, false_or, or_false, and_self, ok_n0, ok_ni, ok_nr, ok_nl, va_rf_some, va_rf_none, true_and, and_true, List.length_nil, List.length_cons, Option.toList_some, Option.toList_none, List.cons_append, List.nil_append, rK_uA, rK_uI, rK_uJ, rK_uP, rP_uA, rP_uI, rP_uJ, rJ_uA, rJ_uI, rJ_uP, rI_uJ, rI_uP, rz_uA, rz_uI, rz_uJ, rz_uP, rs_uA, rs_uI, rs_uJ, rs_uP, Nat.reduceAdd, Nat.reduceMul, Nat.reduceSub, Nat.reduceLeDiff, Nat.reduceLT, Nat.reduceEqDiff, Nat.add_zero, Nat.zero_add, Nat.zero_le, decide_false, nb_f]
/-- the last place from i on, else r -/
def llast (f : Nat → Int32) (x : Int32) : Nat → Nat → Int32 → Int32
  | 0, _, r => r
  | m + 1, i, r => llast f x m (i + 1) (if f i = x then nI i else r)
theorem s_placeIn_loop {h : pm_H} {M s : Nat} {v : Nat → Int32} (t : MV h M s v) {i c : Nat} (hi : i < 9) (hc : v (35 + 65 * i + 3) = nI c) (hc2 : c ≤ 60) (w : Int32) (Q : Option Value × pm_H → Prop) : ∀ (m k : Nat) (r : Int32), k + m = c → pGo 128 12 [some (.ref M), some (.int (nI i)), some (.int w), some (.int (nI (s + (35 + 65 * i)))), some (.int r), some (.int (nI k))] [] h Q = Q (some (.int (llast (fun k => v (35 + 65 * i + 5 + k)) w m k r)), h) := by
  obtain ⟨t1, t2, t3, t4⟩ := id t
  intro m
  induction m with
  | zero =>
    intro k r hk
    have c1 : c ≤ k := by omega
    have c2 : s + (35 + 65 * i + 3) < 41160 := by omega
    rw [k128_12]
    simp (disch := omega) only [k128_0, k128_1, k128_2, k128_5, k128_6, k128_7, k128_9, k128_10, k128_14, k128_15, k128_18, k128_19, k128_20, k128_21, k128_22, k128_25, k128_26, k128_29, k128_30, k128_31, k128_32, k128_34, k128_35, k128_36, k128_37, k128_40, k128_42, k128_44, k128_47, k128_50, k128_52, if_true, if_false, ite_true, ite_false, not_true_eq_false, not_false_eq_true, true_or, or_true, false_or, or_false, and_self, ok_n0, ok_ni, ok_nr, ok_nl, va_rf_some, va_rf_none, true_and, and_true, List.length_nil, List.length_cons, Option.toList_some, Option.toList_none, List.cons_append, List.nil_append, rK_uA, rK_uI, rK_uJ, rK_uP, rP_uA, rP_uI, rP_uJ, rJ_uA, rJ_uI, rJ_uP, rI_uJ, rI_uP, rz_uA, rz_uI, rz_uJ, rz_uP, rs_uA, rs_uI, rs_uJ, rs_uP, Nat.reduceAdd, Nat.reduceMul, Nat.reduceSub, Nat.reduceLeDiff, Nat.reduceLT, Nat.reduceEqDiff, Nat.add_zero, Nat.zero_add, Nat.zero_le, t1.1, t1.2.1, t1.2.2.1, ar_add, ar_oki, ar_cl, ar_le, Nat.add_assoc s, t4, hc, c1, c2, llast]
  | succ m ih =>
    intro k r hk
    have c1 : ¬ c ≤ k := by omega
    have c2 : s + (35 + 65 * i + 3) < 41160 := by omega
    have c3 : s + (35 + 65 * i + 5 + k) < 41160 := by omega
    rw [k128_12]
    simp (disch := omega) only [k128_0, k128_1, k128_2, k128_5, k128_6, k128_7, k128_9, k128_10, k128_14, k128_15, k128_18, k128_19, k128_20, k128_21, k128_22, k128_25, k128_26, k128_29, k128_30, k128_31, k128_32, k128_34, k128_35, k128_36, k128_37, k128_40, k128_42, k128_44, k128_47, k128_50, k128_52, if_true, if_false, ite_true, ite_false, not_true_eq_false, not_false_eq_true, true_or, or_true, false_or, or_false, and_self, ok_n0, ok_ni, ok_nr, ok_nl, va_rf_some, va_rf_none, true_and, and_true, List.length_nil, List.length_cons, Option.toList_some, Option.toList_none, List.cons_append, List.nil_append, rK_uA, rK_uI, rK_uJ, rK_uP, rP_uA, rP_uI, rP_uJ, rJ_uA, rJ_uI, rJ_uP, rI_uJ, rI_uP, rz_uA, rz_uI, rz_uJ, rz_uP, rs_uA, rs_uI, rs_uJ, rs_uP, Nat.reduceAdd, Nat.reduceMul, Nat.reduceSub, Nat.reduceLeDiff, Nat.reduceLT, Nat.reduceEqDiff, Nat.add_zero, Nat.zero_add, Nat.zero_le, t1.1, t1.2.1, t1.2.2.1, ar_add, ar_oki, ar_cl, ar_le, Nat.add_assoc s, t4, hc, c1, c2, c3, llast, ih]
    by_cases hx : v (35 + 65 * i + 5 + k) = w
    · simp only [hx, if_true, if_false, ite_true, ite_false, not_true_eq_false, not_false_eq_true, true_or, or_true, false_or, or_false, and_self, ok_n0, ok_ni, ok_nr, ok_nl, va_rf_some, va_rf_none, true_and, and_true, List.length_nil, List.length_cons, Option.toList_some, Option.toList_none, List.cons_append, List.nil_append, rK_uA, rK_uI, rK_uJ, rK_uP, rP_uA, rP_uI, rP_uJ, rJ_uA, rJ_uI, rJ_uP, rI_uJ, rI_uP, rz_uA, rz_uI, rz_uJ, rz_uP, rs_uA, rs_uI, rs_uJ, rs_uP, Nat.reduceAdd, Nat.reduceMul, Nat.reduceSub, Nat.reduceLeDiff, Nat.reduceLT, Nat.reduceEqDiff, Nat.add_zero, Nat.zero_add, Nat.zero_le]
    · simp only [hx, if_true, if_false, ite_true, ite_false, not_true_eq_false, not_false_eq_true, true_or, or_true, false_or, or_false, and_self, ok_n0, ok_ni, ok_nr, ok_nl, va_rf_some, va_rf_none, true_and, and_true, List.length_nil, List.length_cons, Option.toList_some, Option.toList_none, List.cons_append, List.nil_append, rK_uA, rK_uI, rK_uJ, rK_uP, rP_uA, rP_uI, rP_uJ, rJ_uA, rJ_uI, rJ_uP, rI_uJ, rI_uP, rz_uA, rz_uI, rz_uJ, rz_uP, rs_uA, rs_uI, rs_uJ, rs_uP, Nat.reduceAdd, Nat.reduceMul, Nat.reduceSub, Nat.reduceLeDiff, Nat.reduceLT, Nat.reduceEqDiff, Nat.add_zero, Nat.zero_add, Nat.zero_le]
def plcV (v : Nat → Int32) (i : Nat) (c : Nat) (w : Int32) : Int32 := llast (fun k => v (35 + 65 * i + 5 + k)) w c 0 (-1)
theorem s_placeIn {h : pm_H} {M s : Nat} {v : Nat → Int32} (t : MV h M s v) {i c : Nat} (hi : i < 9) (hc : v (35 + 65 * i + 3) = nI c) (hc2 : c ≤ 60) (w : Int32) (Q : Option Value × pm_H → Prop) : pGo 128 0 [some (.ref M), some (.int (nI i)), some (.int w), none, none, none] [] h Q = Q (some (.int (plcV v i c w)), h) := by
  rw [k128_0]
  simp only [k128_1, k128_2, k128_5, k128_6, k128_7, k128_9, k128_10, k128_14, k128_15, k128_18, k128_19, k128_20, k128_21, k128_22, k128_25, k128_26, k128_29, k128_30, k128_31, k128_32, k128_34, k128_35, k128_36, k128_37, k128_40, k128_42, k128_44, k128_47, k128_50, k128_52, s_space t, t.1.1, if_true, if_false, ite_true, ite_false, not_true_eq_false, not_false_eq_true, true_or, or_true, false_or, or_false, and_self, ok_n0, ok_ni, ok_nr, ok_nl, va_rf_some, va_rf_none, true_and, and_true, List.length_nil, List.length_cons, Option.toList_some, Option.toList_none, List.cons_append, List.nil_append, rK_uA, rK_uI, rK_uJ, rK_uP, rP_uA, rP_uI, rP_uJ, rJ_uA, rJ_uI, rJ_uP, rI_uJ, rI_uP, rz_uA, rz_uI, rz_uJ, rz_uP, rs_uA, rs_uI, rs_uJ, rs_uP, Nat.reduceAdd, Nat.reduceMul, Nat.reduceSub, Nat.reduceLeDiff, Nat.reduceLT, Nat.reduceEqDiff, Nat.add_zero, Nat.zero_add, Nat.zero_le]
  exact s_placeIn_loop t hi hc hc2 w Q c 0 (-1) (by omega)
theorem s_homeOf_loop {h : pm_H} {M s : Nat} {v : Nat → Int32} (t : MV h M s v) {C : Nat → Nat} (hc : ∀ i, i < 9 → v (35 + 65 * i + 3) = nI (C i)) (hc2 : ∀ i, i < 9 → C i ≤ 60) (w : Int32) (Q : Option Value × pm_H → Prop) : ∀ (m k : Nat) (r : Int32), k + m = 9 → pGo 127 4 [some (.ref M), some (.int w), some (.int r), some (.int (nI k))] [] h Q = Q (some (.int (llast (fun i => if nI 0 ≤ plcV v i (C i) w then nI 1 else nI 0) (nI 1) m k r)), h) := by
  intro m
  induction m with
  | zero =>
    intro k r hk
    have c1 : 9 ≤ k := by omega
    rw [k127_4]
    simp (disch := omega) only [k127_0, k127_1, k127_2, k127_3, k127_5, k127_7, k127_10, k127_11, k127_12, k127_13, k127_16, k127_19, k127_20, k127_21, k127_24, k127_27, k127_28, if_true, if_false, ite_true, ite_false, not_true_eq_false, not_false_eq_true, true_or, or_true, false_or, or_false, and_self, ok_n0, ok_ni, ok_nr, ok_nl, va_rf_some, va_rf_none, true_and, and_true, List.length_nil, List.length_cons, Option.toList_some, Option.toList_none, List.cons_append, List.nil_append, rK_uA, rK_uI, rK_uJ, rK_uP, rP_uA, rP_uI, rP_uJ, rJ_uA, rJ_uI, rJ_uP, rI_uJ, rI_uP, rz_uA, rz_uI, rz_uJ, rz_uP, rs_uA, rs_uI, rs_uJ, rs_uP, Nat.reduceAdd, Nat.reduceMul, Nat.reduceSub, Nat.reduceLeDiff, Nat.reduceLT, Nat.reduceEqDiff, Nat.add_zero, Nat.zero_add, Nat.zero_le, ar_le, c1, llast]
  | succ m ih =>
    intro k r hk
    have c1 : ¬ 9 ≤ k := by omega
    have e1 : plcV v k (C k) w < nI 0 ↔ ¬ nI 0 ≤ plcV v k (C k) w := by rw [Int32.not_le]
    rw [k127_4]
    simp (disch := omega) only [k127_0, k127_1, k127_2, k127_3, k127_5, k127_7, k127_10, k127_11, k127_12, k127_13, k127_16, k127_19, k127_20, k127_21, k127_24, k127_27, k127_28, s_placeIn t (show k < 9 by omega) (hc k (by omega)) (hc2 k (by omega)), if_true, if_false, ite_true, ite_false, not_true_eq_false, not_false_eq_true, true_or, or_true, false_or, or_false, and_self, ok_n0, ok_ni, ok_nr, ok_nl, va_rf_some, va_rf_none, true_and, and_true, List.length_nil, List.length_cons, Option.toList_some, Option.toList_none, List.cons_append, List.nil_append, rK_uA, rK_uI, rK_uJ, rK_uP, rP_uA, rP_uI, rP_uJ, rJ_uA, rJ_uI, rJ_uP, rI_uJ, rI_uP, rz_uA, rz_uI, rz_uJ, rz_uP, rs_uA, rs_uI, rs_uJ, rs_uP, Nat.reduceAdd, Nat.reduceMul, Nat.reduceSub, Nat.reduceLeDiff, Nat.reduceLT, Nat.reduceEqDiff, Nat.add_zero, Nat.zero_add, Nat.zero_le, t.1.1, ar_le, ar_add, c1, llast, ih, e1]
    by_cases hx : nI 0 ≤ plcV v k (C k) w
    · simp only [hx, if_true, if_false, ite_true, ite_false, not_true_eq_false, not_false_eq_true, true_or, or_true, false_or, or_false, and_self, ok_n0, ok_ni, ok_nr, ok_nl, va_rf_some, va_rf_none, true_and, and_true, List.length_nil, List.length_cons, Option.toList_some, Option.toList_none, List.cons_append, List.nil_append, rK_uA, rK_uI, rK_uJ, rK_uP, rP_uA, rP_uI, rP_uJ, rJ_uA, rJ_uI, rJ_uP, rI_uJ, rI_uP, rz_uA, rz_uI, rz_uJ, rz_uP, rs_uA, rs_uI, rs_uJ, rs_uP, Nat.reduceAdd, Nat.reduceMul, Nat.reduceSub, Nat.reduceLeDiff, Nat.reduceLT, Nat.reduceEqDiff, Nat.add_zero, Nat.zero_add, Nat.zero_le]
    · simp only [hx, if_true, if_false, ite_true, ite_false, not_true_eq_false, not_false_eq_true, true_or, or_true, false_or, or_false, and_self, ok_n0, ok_ni, ok_nr, ok_nl, va_rf_some, va_rf_none, true_and, and_true, List.length_nil, List.length_cons, Option.toList_some, Option.toList_none, List.cons_append, List.nil_append, rK_uA, rK_uI, rK_uJ, rK_uP, rP_uA, rP_uI, rP_uJ, rJ_uA, rJ_uI, rJ_uP, rI_uJ, rI_uP, rz_uA, rz_uI, rz_uJ, rz_uP, rs_uA, rs_uI, rs_uJ, rs_uP, Nat.reduceAdd, Nat.reduceMul, Nat.reduceSub, Nat.reduceLeDiff, Nat.reduceLT, Nat.reduceEqDiff, Nat.add_zero, Nat.zero_add, Nat.zero_le, show ¬ nI 0 = nI 1 by decide +kernel]
def homV (v : Nat → Int32) (C : Nat → Nat) (w : Int32) : Int32 := llast (fun i => if nI 0 ≤ plcV v i (C i) w then nI 1 else nI 0) (nI 1) 9 0 (-1)
theorem s_homeOf {h : pm_H} {M s : Nat} {v : Nat → Int32} (t : MV h M s v) {C : Nat → Nat} (hc : ∀ i, i < 9 → v (35 + 65 * i + 3) = nI (C i)) (hc2 : ∀ i, i < 9 → C i ≤ 60) (w : Int32) (Q : Option Value × pm_H → Prop) : pGo 127 0 [some (.ref M), some (.int w), none, none] [] h Q = Q (some (.int (homV v C w)), h) := by
  rw [k127_0]
  simp only [k127_1, k127_2, k127_3, k127_5, k127_7, k127_10, k127_11, k127_12, k127_13, k127_16, k127_19, k127_20, k127_21, k127_24, k127_27, k127_28, if_true, if_false, ite_true, ite_false, not_true_eq_false, not_false_eq_true, true_or, or_true, false_or, or_false, and_self, ok_n0, ok_ni, ok_nr, ok_nl, va_rf_some, va_rf_none, true_and, and_true, List.length_nil, List.length_cons, Option.toList_some, Option.toList_none, List.cons_append, List.nil_append, rK_uA, rK_uI, rK_uJ, rK_uP, rP_uA, rP_uI, rP_uJ, rJ_uA, rJ_uI, rJ_uP, rI_uJ, rI_uP, rz_uA, rz_uI, rz_uJ, rz_uP, rs_uA, rs_uI, rs_uJ, rs_uP, Nat.reduceAdd, Nat.reduceMul, Nat.reduceSub, Nat.reduceLeDiff, Nat.reduceLT, Nat.reduceEqDiff, Nat.add_zero, Nat.zero_add, Nat.zero_le]
  exact s_homeOf_loop t hc hc2 w Q 9 0 (-1) (by omega)
theorem s_currentSpace {h : pm_H} {M s : Nat} {v : Nat → Int32} (t : MV h M s v) {c : Nat} (hc : v 1 = nI c) (hc2 : c < 4) (Q : Option Value × pm_H → Prop) : pGo 129 0 [some (.ref M)] [] h Q = Q (some (.int (v (21 + c))), h) := by
  obtain ⟨t1, t2, t3, t4⟩ := id t
  have c1 : s + 1 < 41160 := by omega
  have c2 : s + (21 + c) < 41160 := by omega
  simp (disch := omega) only [k129_0, k129_1, k129_4, k129_5, k129_8, k129_10, k129_11, k129_12, k129_15, k129_16, k129_19, k129_20, k129_21, k129_22, k129_23, k129_24, if_true, if_false, ite_true, ite_false, not_true_eq_false, not_false_eq_true, true_or, or_true, false_or, or_false, and_self, ok_n0, ok_ni, ok_nr, ok_nl, va_rf_some, va_rf_none, true_and, and_true, List.length_nil, List.length_cons, Option.toList_some, Option.toList_none, List.cons_append, List.nil_append, rK_uA, rK_uI, rK_uJ, rK_uP, rP_uA, rP_uI, rP_uJ, rJ_uA, rJ_uI, rJ_uP, rI_uJ, rI_uP, rz_uA, rz_uI, rz_uJ, rz_uP, rs_uA, rs_uI, rs_uJ, rs_uP, Nat.reduceAdd, Nat.reduceMul, Nat.reduceSub, Nat.reduceLeDiff, Nat.reduceLT, Nat.reduceEqDiff, Nat.add_zero, Nat.zero_add, Nat.zero_le, t1.1, t1.2.1, t1.2.2.1, t2, ar_add, ar_oki, ar_cl, Nat.add_assoc s, t4, hc, c1, c2]
/-- the window in focus of workspace i -/
def focV (v : Nat → Int32) (i : Nat) : Int32 := if v (35 + 65 * i + 4) < nI 0 then -1 else v (35 + 65 * i + 5 + (v (35 + 65 * i + 4)).toNatClampNeg)
theorem s_focusOf {h : pm_H} {M s : Nat} {v : Nat → Int32} (t : MV h M s v) {i : Nat} (hi : i < 9) (hf : v (35 + 65 * i + 4) = -1 ∨ ∃ f, f < 60 ∧ v (35 + 65 * i + 4) = nI f) (Q : Option Value × pm_H → Prop) : pGo 130 0 [some (.ref M), some (.int (nI i)), none] [] h Q = Q (some (.int (focV v i)), h) := by
  obtain ⟨t1, t2, t3, t4⟩ := id t
  have c1 : s + (35 + 65 * i + 4) < 41160 := by omega
  simp (disch := omega) only [k130_0, k130_1, k130_2, k130_5, k130_6, k130_7, k130_10, k130_11, k130_12, k130_13, k130_14, k130_17, k130_18, k130_21, k130_22, k130_25, k130_26, k130_27, k130_28, k130_29, k130_32, k130_33, k130_34, k130_35, k130_36, k130_37, k130_38, s_space t, if_true, if_false, ite_true, ite_false, not_true_eq_false, not_false_eq_true, true_or, or_true, false_or, or_false, and_self, ok_n0, ok_ni, ok_nr, ok_nl, va_rf_some, va_rf_none, true_and, and_true, List.length_nil, List.length_cons, Option.toList_some, Option.toList_none, List.cons_append, List.nil_append, rK_uA, rK_uI, rK_uJ, rK_uP, rP_uA, rP_uI, rP_uJ, rJ_uA, rJ_uI, rJ_uP, rI_uJ, rI_uP, rz_uA, rz_uI, rz_uJ, rz_uP, rs_uA, rs_uI, rs_uJ, rs_uP, Nat.reduceAdd, Nat.reduceMul, Nat.reduceSub, Nat.reduceLeDiff, Nat.reduceLT, Nat.reduceEqDiff, Nat.add_zero, Nat.zero_add, Nat.zero_le, t1.1, t1.2.1, t1.2.2.1, ar_add, ar_oki, ar_cl, Nat.add_assoc s, t4, c1, focV]
  rcases hf with hf | ⟨f, hf1, hf2⟩
  · simp only [hf, show (-1 : Int32) < nI 0 by decide +kernel, show ¬ nI 0 ≤ (-1 : Int32) by decide +kernel, if_true, if_false, ite_true, ite_false, not_true_eq_false, not_false_eq_true, true_or, or_true, false_or, or_false, and_self, ok_n0, ok_ni, ok_nr, ok_nl, va_rf_some, va_rf_none, true_and, and_true, List.length_nil, List.length_cons, Option.toList_some, Option.toList_none, List.cons_append, List.nil_append, rK_uA, rK_uI, rK_uJ, rK_uP, rP_uA, rP_uI, rP_uJ, rJ_uA, rJ_uI, rJ_uP, rI_uJ, rI_uP, rz_uA, rz_uI, rz_uJ, rz_uP, rs_uA, rs_uI, rs_uJ, rs_uP, Nat.reduceAdd, Nat.reduceMul, Nat.reduceSub, Nat.reduceLeDiff, Nat.reduceLT, Nat.reduceEqDiff, Nat.add_zero, Nat.zero_add, Nat.zero_le]
  · have c2 : s + (35 + 65 * i + 5 + f) < 41160 := by omega
    simp (disch := omega) only [hf2, ar_lt, ar_le, ar_cl, ar_add, ar_oki, Nat.add_assoc s, t4, c2, if_true, if_false, ite_true, ite_false, not_true_eq_false, not_false_eq_true, true_or, or_true, false_or, or_false, and_self, ok_n0, ok_ni, ok_nr, ok_nl, va_rf_some, va_rf_none, true_and, and_true, List.length_nil, List.length_cons, Option.toList_some, Option.toList_none, List.cons_append, List.nil_append, rK_uA, rK_uI, rK_uJ, rK_uP, rP_uA, rP_uI, rP_uJ, rJ_uA, rJ_uI, rJ_uP, rI_uJ, rI_uP, rz_uA, rz_uI, rz_uJ, rz_uP, rs_uA, rs_uI, rs_uJ, rs_uP, Nat.reduceAdd, Nat.reduceMul, Nat.reduceSub, Nat.reduceLeDiff, Nat.reduceLT, Nat.reduceEqDiff, Nat.add_zero, Nat.zero_add, Nat.zero_le, t1.2.2.1]
    simp only [show ¬ f < 0 by omega, if_true, if_false, ite_true, ite_false, not_true_eq_false, not_false_eq_true, true_or, or_true, false_or, or_false, and_self, ok_n0, ok_ni, ok_nr, ok_nl, va_rf_some, va_rf_none, true_and, and_true, List.length_nil, List.length_cons, Option.toList_some, Option.toList_none, List.cons_append, List.nil_append, rK_uA, rK_uI, rK_uJ, rK_uP, rP_uA, rP_uI, rP_uJ, rJ_uA, rJ_uI, rJ_uP, rI_uJ, rI_uP, rz_uA, rz_uI, rz_uJ, rz_uP, rs_uA, rs_uI, rs_uJ, rs_uP, Nat.reduceAdd, Nat.reduceMul, Nat.reduceSub, Nat.reduceLeDiff, Nat.reduceLT, Nat.reduceEqDiff, Nat.add_zero, Nat.zero_add, Nat.zero_le]
