/-! LINE: a row of numbers -/
/-- a line at a, its row at b with room for n, s numbers in it -/
def LN (h : pm_H) (a b n s : Nat) : Prop := rK h a = (1, 5) ∧ rP h a 0 = some b ∧ rK h b = (2, n) ∧ a ≠ b ∧ rI h a 1 = nI s ∧ s ≤ n ∧ n ≤ 100000
def lget (f : Nat → Int32) (s : Nat) (p : Int32) : Int32 := if 0 ≤ p.toInt ∧ p.toInt < s then f p.toNatClampNeg else -1
def lfind (f : Nat → Int32) (x : Int32) : Nat → Nat → Int32
  | 0, _ => -1
  | n + 1, i => if f i = x then nI i else lfind f x n (i + 1)
def lins (f : Nat → Int32) (p s : Nat) (x : Int32) : Nat → Int32 := upd (va_cpy f f p (p + 1) (s - p)) p x
def lrem (f : Nat → Int32) (p s : Nat) : Nat → Int32 := va_cpy f f (p + 1) p (s - 1 - p)
theorem lget_nI {f : Nat → Int32} {s j : Nat} (h : j < s) (hs : s < 2147483648) : lget f s (nI j) = f j := by
  rw [lget, ar_toInt (by omega), if_pos (by omega), ar_cl (by omega)]
theorem lget_m1 {f : Nat → Int32} {s : Nat} : lget f s (-1) = -1 := by
  rw [lget, if_neg]
  rw [ar_neg1]
  omega
theorem s_Line_get {a b n s : Nat} {h : pm_H} (l : LN h a b n s) (p : Int32) (Q : Option Value × pm_H → Prop) : pGo 55 0 [some (.ref a), some (.int p)] [] h Q = Q (some (.int (lget (rI h b) s p)), h) := by
  obtain ⟨k1, k2, k3, k4, k5, k6, k7⟩ := l
  simp only [k55_0, k55_1, k55_4, k55_5, k55_6, k55_9, k55_12, k55_13, k55_16, k55_17, k55_18, k55_21, k55_22, if_true, if_false, ite_true, ite_false, not_true_eq_false, not_false_eq_true, true_or, or_true, false_or, or_false, and_self, ok_n0, ok_ni, ok_nr, ok_nl, va_rf_some, va_rf_none, true_and, and_true, List.length_nil, List.length_cons, Option.toList_some, Option.toList_none, List.cons_append, List.nil_append, rK_uA, rK_uI, rK_uJ, rK_uP, rP_uA, rP_uI, rP_uJ, rJ_uA, rJ_uI, rJ_uP, rI_uJ, rI_uP, rz_uA, rz_uI, rz_uJ, rz_uP, rs_uA, rs_uI, rs_uJ, rs_uP, Nat.reduceAdd, Nat.reduceMul, Nat.reduceSub, Nat.reduceLeDiff, Nat.reduceLT, Nat.reduceEqDiff, Nat.add_zero, Nat.zero_add, Nat.zero_le, k1, k2, k5]
  rcases ar_ix p (n := s) (by omega) with ⟨h1, h2⟩ | ⟨h1, h2, h3⟩ | ⟨j, hj, rfl⟩
  · rw [if_pos h1, lget, if_neg h2]
  · rw [if_neg h1, if_pos h2, lget, if_neg h3]
  · rw [lget_nI hj (by omega)]
    simp (disch := omega) only [ar_lt, ar_le, ar_oki, ar_cl, k3]
    rw [if_neg (by omega), if_neg (by omega)]
    simp only [true_or, true_and, show j < n by omega]
theorem s_Line_find_loop {a b n s : Nat} {h : pm_H} (l : LN h a b n s) (x : Int32) (Q : Option Value × pm_H → Prop) : ∀ (m i : Nat), i + m = s → pGo 56 2 [some (.ref a), some (.int x), some (.int (nI i))] [] h Q = Q (some (.int (lfind (rI h b) x m i)), h) := by
  obtain ⟨k1, k2, k3, k4, k5, k6, k7⟩ := id l
  intro m
  induction m with
  | zero =>
    intro i hi
    have c1 : s ≤ i := by omega
    rw [k56_2]
    simp (disch := omega) only [k56_0, k56_1, k56_3, k56_4, k56_7, k56_10, k56_11, k56_14, k56_15, k56_16, k56_17, k56_20, k56_21, k56_22, k56_25, k56_28, k56_29, if_true, if_false, ite_true, ite_false, not_true_eq_false, not_false_eq_true, true_or, or_true, false_or, or_false, and_self, ok_n0, ok_ni, ok_nr, ok_nl, va_rf_some, va_rf_none, true_and, and_true, List.length_nil, List.length_cons, Option.toList_some, Option.toList_none, List.cons_append, List.nil_append, rK_uA, rK_uI, rK_uJ, rK_uP, rP_uA, rP_uI, rP_uJ, rJ_uA, rJ_uI, rJ_uP, rI_uJ, rI_uP, rz_uA, rz_uI, rz_uJ, rz_uP, rs_uA, rs_uI, rs_uJ, rs_uP, Nat.reduceAdd, Nat.reduceMul, Nat.reduceSub, Nat.reduceLeDiff, Nat.reduceLT, Nat.reduceEqDiff, Nat.add_zero, Nat.zero_add, Nat.zero_le, k1, k2, k5, ar_le, c1, lfind]
  | succ m ih =>
    intro i hi
    have c1 : ¬ s ≤ i := by omega
    have c2 : i < n := by omega
    rw [k56_2]
    simp (disch := omega) only [k56_0, k56_1, k56_3, k56_4, k56_7, k56_10, k56_11, k56_14, k56_15, k56_16, k56_17, k56_20, k56_21, k56_22, k56_25, k56_28, k56_29, if_true, if_false, ite_true, ite_false, not_true_eq_false, not_false_eq_true, true_or, or_true, false_or, or_false, and_self, ok_n0, ok_ni, ok_nr, ok_nl, va_rf_some, va_rf_none, true_and, and_true, List.length_nil, List.length_cons, Option.toList_some, Option.toList_none, List.cons_append, List.nil_append, rK_uA, rK_uI, rK_uJ, rK_uP, rP_uA, rP_uI, rP_uJ, rJ_uA, rJ_uI, rJ_uP, rI_uJ, rI_uP, rz_uA, rz_uI, rz_uJ, rz_uP, rs_uA, rs_uI, rs_uJ, rs_uP, Nat.reduceAdd, Nat.reduceMul, Nat.reduceSub, Nat.reduceLeDiff, Nat.reduceLT, Nat.reduceEqDiff, Nat.add_zero, Nat.zero_add, Nat.zero_le, k1, k2, k5, ar_le, ar_oki, ar_cl, ar_add, k3, c1, c2, lfind, ih]
    by_cases hx : rI h b i = x
    · simp only [hx, if_true, if_false, ite_true, ite_false, not_true_eq_false, not_false_eq_true, true_or, or_true, false_or, or_false, and_self, ok_n0, ok_ni, ok_nr, ok_nl, va_rf_some, va_rf_none, true_and, and_true, List.length_nil, List.length_cons, Option.toList_some, Option.toList_none, List.cons_append, List.nil_append, rK_uA, rK_uI, rK_uJ, rK_uP, rP_uA, rP_uI, rP_uJ, rJ_uA, rJ_uI, rJ_uP, rI_uJ, rI_uP, rz_uA, rz_uI, rz_uJ, rz_uP, rs_uA, rs_uI, rs_uJ, rs_uP, Nat.reduceAdd, Nat.reduceMul, Nat.reduceSub, Nat.reduceLeDiff, Nat.reduceLT, Nat.reduceEqDiff, Nat.add_zero, Nat.zero_add, Nat.zero_le]
    · simp only [hx, if_true, if_false, ite_true, ite_false, not_true_eq_false, not_false_eq_true, true_or, or_true, false_or, or_false, and_self, ok_n0, ok_ni, ok_nr, ok_nl, va_rf_some, va_rf_none, true_and, and_true, List.length_nil, List.length_cons, Option.toList_some, Option.toList_none, List.cons_append, List.nil_append, rK_uA, rK_uI, rK_uJ, rK_uP, rP_uA, rP_uI, rP_uJ, rJ_uA, rJ_uI, rJ_uP, rI_uJ, rI_uP, rz_uA, rz_uI, rz_uJ, rz_uP, rs_uA, rs_uI, rs_uJ, rs_uP, Nat.reduceAdd, Nat.reduceMul, Nat.reduceSub, Nat.reduceLeDiff, Nat.reduceLT, Nat.reduceEqDiff, Nat.add_zero, Nat.zero_add, Nat.zero_le]
theorem s_Line_find {a b n s : Nat} {h : pm_H} (l : LN h a b n s) (x : Int32) (Q : Option Value × pm_H → Prop) : pGo 56 0 [some (.ref a), some (.int x), none] [] h Q = Q (some (.int (lfind (rI h b) x s 0)), h) := by
  rw [k56_0]
  simp only [k56_1, k56_3, k56_4, k56_7, k56_10, k56_11, k56_14, k56_15, k56_16, k56_17, k56_20, k56_21, k56_22, k56_25, k56_28, k56_29, if_true, if_false, ite_true, ite_false, not_true_eq_false, not_false_eq_true, true_or, or_true, false_or, or_false, and_self, ok_n0, ok_ni, ok_nr, ok_nl, va_rf_some, va_rf_none, true_and, and_true, List.length_nil, List.length_cons, Option.toList_some, Option.toList_none, List.cons_append, List.nil_append, rK_uA, rK_uI, rK_uJ, rK_uP, rP_uA, rP_uI, rP_uJ, rJ_uA, rJ_uI, rJ_uP, rI_uJ, rI_uP, rz_uA, rz_uI, rz_uJ, rz_uP, rs_uA, rs_uI, rs_uJ, rs_uP, Nat.reduceAdd, Nat.reduceMul, Nat.reduceSub, Nat.reduceLeDiff, Nat.reduceLT, Nat.reduceEqDiff, Nat.add_zero, Nat.zero_add, Nat.zero_le]
  exact s_Line_find_loop l x Q s 0 (by omega)
theorem s_Line_insertAt {a b n s p : Nat} {h : pm_H} (l : LN h a b n s) (hp : p ≤ s) (hs : s < n) (x : Int32) (Q : Option Value × pm_H → Prop) : pGo 57 0 [some (.ref a), some (.int (nI p)), some (.int x)] [] h Q = Q (none, uI (uA h b (lins (rI h b) p s x)) a 1 (nI (s + 1))) := by
  obtain ⟨k1, k2, k3, k4, k5, k6, k7⟩ := id l
  have c1 : ¬ s < p := by omega
  have c2 : ¬ n ≤ s := by omega
  have c3 : p + (s - p) ≤ n := by omega
  have c4 : p + 1 + (s - p) ≤ n := by omega
  have c5 : p < n := by omega
  have c6 : ¬ p < 0 := by omega
  simp (disch := omega) only [k57_0, k57_1, k57_4, k57_5, k57_6, k57_9, k57_12, k57_13, k57_16, k57_17, k57_20, k57_21, k57_24, k57_25, k57_26, k57_29, k57_30, k57_31, k57_34, k57_35, k57_36, k57_37, k57_38, k57_41, k57_42, k57_43, k57_46, k57_47, k57_50, k57_51, k57_52, k57_53, k57_54, k57_54i, k57_55, k57_58, k57_59, k57_60, k57_63, if_true, if_false, ite_true, ite_false, not_true_eq_false, not_false_eq_true, true_or, or_true, false_or, or_false, and_self, ok_n0, ok_ni, ok_nr, ok_nl, va_rf_some, va_rf_none, true_and, and_true, List.length_nil, List.length_cons, Option.toList_some, Option.toList_none, List.cons_append, List.nil_append, rK_uA, rK_uI, rK_uJ, rK_uP, rP_uA, rP_uI, rP_uJ, rJ_uA, rJ_uI, rJ_uP, rI_uJ, rI_uP, rz_uA, rz_uI, rz_uJ, rz_uP, rs_uA, rs_uI, rs_uJ, rs_uP, Nat.reduceAdd, Nat.reduceMul, Nat.reduceSub, Nat.reduceLeDiff, Nat.reduceLT, Nat.reduceEqDiff, Nat.add_zero, Nat.zero_add, Nat.zero_le, k1, k2, k3, k5, ar_le, ar_lt, ar_oki, ar_okw, ar_cl, ar_add, ar_sub, ar_n0, rI_uA, rI_uI, k4, uI_uA, c1, c2, c3, c4, c5, c6, hs, lins]
theorem s_Line_removeAt {a b n s p : Nat} {h : pm_H} (l : LN h a b n s) (hp : p < s) (Q : Option Value × pm_H → Prop) : pGo 58 0 [some (.ref a), some (.int (nI p))] [] h Q = Q (none, uA (uI h a 1 (nI (s - 1))) b (lrem (rI h b) p s)) := by
  obtain ⟨k1, k2, k3, k4, k5, k6, k7⟩ := id l
  have c1 : ¬ s ≤ p := by omega
  have c3 : p + 1 + (s - 1 - p) ≤ n := by omega
  have c4 : p + (s - 1 - p) ≤ n := by omega
  have c6 : ¬ p < 0 := by omega
  have k4' : ¬ b = a := fun q => k4 q.symm
  simp (disch := omega) only [k58_0, k58_1, k58_4, k58_5, k58_6, k58_9, k58_12, k58_13, k58_14, k58_14i, k58_15, k58_18, k58_19, k58_20, k58_23, k58_24, k58_27, k58_28, k58_29, k58_30, k58_31, k58_34, k58_35, k58_36, k58_39, k58_40, k58_41, k58_44, if_true, if_false, ite_true, ite_false, not_true_eq_false, not_false_eq_true, true_or, or_true, false_or, or_false, and_self, ok_n0, ok_ni, ok_nr, ok_nl, va_rf_some, va_rf_none, true_and, and_true, List.length_nil, List.length_cons, Option.toList_some, Option.toList_none, List.cons_append, List.nil_append, rK_uA, rK_uI, rK_uJ, rK_uP, rP_uA, rP_uI, rP_uJ, rJ_uA, rJ_uI, rJ_uP, rI_uJ, rI_uP, rz_uA, rz_uI, rz_uJ, rz_uP, rs_uA, rs_uI, rs_uJ, rs_uP, Nat.reduceAdd, Nat.reduceMul, Nat.reduceSub, Nat.reduceLeDiff, Nat.reduceLT, Nat.reduceEqDiff, Nat.add_zero, Nat.zero_add, Nat.zero_le, k1, k2, k3, k5, ar_le, ar_lt, ar_oki, ar_okw, ar_cl, ar_add, ar_sub, ar_n0, rI_uA, rI_uI, k4, k4', uI_uA, c1, c3, c4, c6, hp, lrem, pk_us]
/-- true and false as the machine has them -/
def nb (b : Bool) : Int32 := if b = true then nI 1 else nI 0
theorem nb_t : nb true = nI 1 := rfl
theorem nb_f : nb false = nI 0 := rfl
theorem nb_ok (b : Bool) : (nb b = nI 0 ∨ nb b = nI 1) = True := by cases b <;> simp [nb]
theorem nb_0 (b : Bool) : (nb b = nI 0) = (b = false) := by
  cases b
  · simp [nb]
  · simp only [nb, if_true, reduceCtorEq]
    exact eq_false (by decide +kernel)
theorem nb_1 (b : Bool) : (nb b = nI 1) = (b = true) := by
  cases b
  · simp only [nb]
    exact propext ⟨fun q => absurd q (by decide +kernel), fun q => by cases q⟩
  · simp [nb]
theorem nb_eq (a b : Bool) : (nb a = nb b) = (a = b) := by
  cases b
  · rw [nb_f, nb_0]
  · rw [nb_t, nb_1]
def leq (f g : Nat → Int32) : Nat → Nat → Bool
  | 0, _ => true
  | m + 1, i => if f i = g i then leq f g m (i + 1) else false
theorem leq_iff (f g : Nat → Int32) : ∀ (m i : Nat), leq f g m i = true ↔ ∀ k, i ≤ k → k < i + m → f k = g k := by
  intro m
  induction m with
  | zero => intro i; simp only [leq, true_iff]; intro k h1 h2; omega
  | succ m ih =>
    intro i
    rw [leq]
    by_cases h : f i = g i
    · rw [if_pos h, ih]
      constructor
      · intro q k h1 h2
        by_cases hk : k = i
        · rw [hk]; exact h
        · exact q k (by omega) (by omega)
      · intro q k h1 h2
        exact q k (by omega) (by omega)
    · rw [if_neg h]
      simp only [Bool.false_eq_true, false_iff]
      intro q
      exact h (q i (by omega) (by omega))
theorem s_Line_exchange {a b n s p q : Nat} {h : pm_H} (l : LN h a b n s) (hp : p < s) (hq : q < s) (Q : Option Value × pm_H → Prop) : pGo 59 0 [some (.ref a), some (.int (nI p)), some (.int (nI q)), none] [] h Q = Q (none, uA h b (upd (upd (rI h b) p (rI h b q)) q (rI h b p))) := by
  obtain ⟨k1, k2, k3, k4, k5, k6, k7⟩ := id l
  have c1 : ¬ s ≤ p := by omega
  have c2 : ¬ s ≤ q := by omega
  have c3 : p < n := by omega
  have c4 : q < n := by omega
  have c6 : ¬ p < 0 := by omega
  have c7 : ¬ q < 0 := by omega
  simp (disch := omega) only [k59_0, k59_1, k59_4, k59_5, k59_6, k59_9, k59_12, k59_13, k59_16, k59_17, k59_18, k59_21, k59_24, k59_25, k59_26, k59_29, k59_30, k59_31, k59_32, k59_33, k59_36, k59_37, k59_38, k59_41, k59_42, k59_43, k59_44, k59_45, k59_48, k59_49, k59_50, k59_51, if_true, if_false, ite_true, ite_false, not_true_eq_false, not_false_eq_true, true_or, or_true, false_or, or_false, and_self, ok_n0, ok_ni, ok_nr, ok_nl, va_rf_some, va_rf_none, true_and, and_true, List.length_nil, List.length_cons, Option.toList_some, Option.toList_none, List.cons_append, List.nil_append, rK_uA, rK_uI, rK_uJ, rK_uP, rP_uA, rP_uI, rP_uJ, rJ_uA, rJ_uI, rJ_uP, rI_uJ, rI_uP, rz_uA, rz_uI, rz_uJ, rz_uP, rs_uA, rs_uI, rs_uJ, rs_uP, Nat.reduceAdd, Nat.reduceMul, Nat.reduceSub, Nat.reduceLeDiff, Nat.reduceLT, Nat.reduceEqDiff, Nat.add_zero, Nat.zero_add, Nat.zero_le, k1, k2, k3, k5, ar_le, ar_lt, ar_oki, ar_okw, ar_cl, ar_n0, c1, c2, c3, c4, c6, c7, hp, hq]
  rw [show uI h b p (rI h b q) = uA h b (upd (rI h b) p (rI h b q)) from rfl, uI_uA]
theorem s_Line_fill {a b n s a2 b2 n2 s2 : Nat} {h : pm_H} (l : LN h a b n s) (l2 : LN h a2 b2 n2 s2) (hs : s2 ≤ n) (h1 : a ≠ a2) (h2 : a ≠ b2) (Q : Option Value × pm_H → Prop) : pGo 60 0 [some (.ref a), some (.ref a2)] [] h Q = Q (none, uA (uI h a 1 (nI s2)) b (va_cpy (rI h b2) (rI h b) 0 0 s2)) := by
  obtain ⟨k1, k2, k3, k4, k5, k6, k7⟩ := id l
  obtain ⟨j1, j2, j3, j4, j5, j6, j7⟩ := id l2
  have c1 : ¬ n < s2 := by omega
  have d1 : ¬ a2 = a := fun q => h1 q.symm
  have d2 : ¬ b2 = a := fun q => h2 q.symm
  have d3 : ¬ b = a := fun q => k4 q.symm
  simp (disch := omega) only [k60_0, k60_1, k60_2, k60_5, k60_6, k60_9, k60_10, k60_13, k60_16, k60_17, k60_20, k60_21, k60_22, k60_25, k60_26, k60_27, k60_30, k60_33, s_min, if_true, if_false, ite_true, ite_false, not_true_eq_false, not_false_eq_true, true_or, or_true, false_or, or_false, and_self, ok_n0, ok_ni, ok_nr, ok_nl, va_rf_some, va_rf_none, true_and, and_true, List.length_nil, List.length_cons, Option.toList_some, Option.toList_none, List.cons_append, List.nil_append, rK_uA, rK_uI, rK_uJ, rK_uP, rP_uA, rP_uI, rP_uJ, rJ_uA, rJ_uI, rJ_uP, rI_uJ, rI_uP, rz_uA, rz_uI, rz_uJ, rz_uP, rs_uA, rs_uI, rs_uJ, rs_uP, Nat.reduceAdd, Nat.reduceMul, Nat.reduceSub, Nat.reduceLeDiff, Nat.reduceLT, Nat.reduceEqDiff, Nat.add_zero, Nat.zero_add, Nat.zero_le, k1, k2, k3, k5, j1, j2, j3, j5, ar_le, ar_lt, ar_cl, ar_n0, rI_uI, rI_uA, d1, d2, d3, c1, j6, hs, pk_us]
theorem s_Line_sameAs_loop {a b n s a2 b2 n2 : Nat} {h : pm_H} (l : LN h a b n s) (l2 : LN h a2 b2 n2 s) (Q : Option Value × pm_H → Prop) : ∀ (m i : Nat), i + m = s → pGo 61 15 [some (.ref a), some (.ref a2), some (.int (nI i))] [] h Q = Q (some (.int (nb (leq (rI h b) (rI h b2) m i))), h) := by
  obtain ⟨k1, k2, k3, k4, k5, k6, k7⟩ := id l
  obtain ⟨j1, j2, j3, j4, j5, j6, j7⟩ := id l2
  intro m
  induction m with
  | zero =>
    intro i hi
    have c1 : s ≤ i := by omega
    rw [k61_15]
    simp (disch := omega) only [k61_0, k61_1, k61_4, k61_5, k61_8, k61_11, k61_12, k61_13, k61_14, k61_16, k61_17, k61_20, k61_23, k61_24, k61_27, k61_28, k61_29, k61_30, k61_33, k61_34, k61_35, k61_38, k61_39, k61_40, k61_43, k61_46, k61_47, if_true, if_false, ite_true, ite_false, not_true_eq_false, not_false_eq_true, true_or, or_true, false_or, or_false, and_self, ok_n0, ok_ni, ok_nr, ok_nl, va_rf_some, va_rf_none, true_and, and_true, List.length_nil, List.length_cons, Option.toList_some, Option.toList_none, List.cons_append, List.nil_append, rK_uA, rK_uI, rK_uJ, rK_uP, rP_uA, rP_uI, rP_uJ, rJ_uA, rJ_uI, rJ_uP, rI_uJ, rI_uP, rz_uA, rz_uI, rz_uJ, rz_uP, rs_uA, rs_uI, rs_uJ, rs_uP, Nat.reduceAdd, Nat.reduceMul, Nat.reduceSub, Nat.reduceLeDiff, Nat.reduceLT, Nat.reduceEqDiff, Nat.add_zero, Nat.zero_add, Nat.zero_le, k1, k2, k5, ar_le, c1, leq, nb_t]
  | succ m ih =>
    intro i hi
    have c1 : ¬ s ≤ i := by omega
    have c2 : i < n := by omega
    have c3 : i < n2 := by omega
    rw [k61_15]
    simp (disch := omega) only [k61_0, k61_1, k61_4, k61_5, k61_8, k61_11, k61_12, k61_13, k61_14, k61_16, k61_17, k61_20, k61_23, k61_24, k61_27, k61_28, k61_29, k61_30, k61_33, k61_34, k61_35, k61_38, k61_39, k61_40, k61_43, k61_46, k61_47, if_true, if_false, ite_true, ite_false, not_true_eq_false, not_false_eq_true, true_or, or_true, false_or, or_false, and_self, ok_n0, ok_ni, ok_nr, ok_nl, va_rf_some, va_rf_none, true_and, and_true, List.length_nil, List.length_cons, Option.toList_some, Option.toList_none, List.cons_append, List.nil_append, rK_uA, rK_uI, rK_uJ, rK_uP, rP_uA, rP_uI, rP_uJ, rJ_uA, rJ_uI, rJ_uP, rI_uJ, rI_uP, rz_uA, rz_uI, rz_uJ, rz_uP, rs_uA, rs_uI, rs_uJ, rs_uP, Nat.reduceAdd, Nat.reduceMul, Nat.reduceSub, Nat.reduceLeDiff, Nat.reduceLT, Nat.reduceEqDiff, Nat.add_zero, Nat.zero_add, Nat.zero_le, k1, k2, k5, j1, j2, j3, ar_le, ar_oki, ar_cl, ar_add, k3, c1, c2, c3, leq, ih]
    by_cases hx : rI h b i = rI h b2 i
    · simp only [hx, if_true, if_false, ite_true, ite_false, not_true_eq_false, not_false_eq_true, true_or, or_true, false_or, or_false, and_self, ok_n0, ok_ni, ok_nr, ok_nl, va_rf_some, va_rf_none, true_and, and_true, List.length_nil, List.length_cons, Option.toList_some, Option.toList_none, List.cons_append, List.nil_append, rK_uA, rK_uI, rK_uJ, rK_uP, rP_uA, rP_uI, rP_uJ, rJ_uA, rJ_uI, rJ_uP, rI_uJ, rI_uP, rz_uA, rz_uI, rz_uJ, rz_uP, rs_uA, rs_uI, rs_uJ, rs_uP, Nat.reduceAdd, Nat.reduceMul, Nat.reduceSub, Nat.reduceLeDiff, Nat.reduceLT, Nat.reduceEqDiff, Nat.add_zero, Nat.zero_add, Nat.zero_le]
    · simp only [hx, if_true, if_false, ite_true, ite_false, not_true_eq_false, not_false_eq_true, true_or, or_true, false_or, or_false, and_self, ok_n0, ok_ni, ok_nr, ok_nl, va_rf_some, va_rf_none, true_and, and_true, List.length_nil, List.length_cons, Option.toList_some, Option.toList_none, List.cons_append, List.nil_append, rK_uA, rK_uI, rK_uJ, rK_uP, rP_uA, rP_uI, rP_uJ, rJ_uA, rJ_uI, rJ_uP, rI_uJ, rI_uP, rz_uA, rz_uI, rz_uJ, rz_uP, rs_uA, rs_uI, rs_uJ, rs_uP, Nat.reduceAdd, Nat.reduceMul, Nat.reduceSub, Nat.reduceLeDiff, Nat.reduceLT, Nat.reduceEqDiff, Nat.add_zero, Nat.zero_add, Nat.zero_le, nb_f]
theorem s_Line_sameAs {a b n s a2 b2 n2 s2 : Nat} {h : pm_H} (l : LN h a b n s) (l2 : LN h a2 b2 n2 s2) (Q : Option Value × pm_H → Prop) : pGo 61 0 [some (.ref a), some (.ref a2), none] [] h Q = Q (some (.int (nb (decide (s = s2) && leq (rI h b) (rI h b2) s 0))), h) := by
  obtain ⟨k1, k2, k3, k4, k5, k6, k7⟩ := id l
  obtain ⟨j1, j2, j3, j4, j5, j6, j7⟩ := id l2
  rw [k61_0]
  simp (disch := omega) only [k61_1, k61_4, k61_5, k61_8, k61_11, k61_12, k61_13, k61_14, k61_16, k61_17, k61_20, k61_23, k61_24, k61_27, k61_28, k61_29, k61_30, k61_33, k61_34, k61_35, k61_38, k61_39, k61_40, k61_43, k61_46, k61_47, if_true, if_false, ite_true, ite_false, not_true_eq_false, not_false_eq_true, true_or, or_true, false_or, or_false, and_self, ok_n0, ok_ni, ok_nr, ok_nl, va_rf_some, va_rf_none, true_and, and_true, List.length_nil, List.length_cons, Option.toList_some, Option.toList_none, List.cons_append, List.nil_append, rK_uA, rK_uI, rK_uJ, rK_uP, rP_uA, rP_uI, rP_uJ, rJ_uA, rJ_uI, rJ_uP, rI_uJ, rI_uP, rz_uA, rz_uI, rz_uJ, rz_uP, rs_uA, rs_uI, rs_uJ, rs_uP, Nat.reduceAdd, Nat.reduceMul, Nat.reduceSub, Nat.reduceLeDiff, Nat.reduceLT, Nat.reduceEqDiff, Nat.add_zero, Nat.zero_add, Nat.zero_le, k1, k5, j1, j5, ar_eq]
  by_cases hs : s = s2
  · subst hs
    simp only [if_true, if_false, ite_true, ite_false, not_true_eq_false, not_false_eq_true, true_or, or_true, false_or, or_false, and_self, ok_n0, ok_ni, ok_nr, ok_nl, va_rf_some, va_rf_none, true_and, and_true, List.length_nil, List.length_cons, Option.toList_some, Option.toList_none, List.cons_append, List.nil_append, rK_uA, rK_uI, rK_uJ, rK_uP, rP_uA, rP_uI, rP_uJ, rJ_uA, rJ_uI, rJ_uP, rI_uJ, rI_uP, rz_uA, rz_uI, rz_uJ, rz_uP, rs_uA, rs_uI, rs_uJ, rs_uP, Nat.reduceAdd, Nat.reduceMul, Nat.reduceSub, Nat.reduceLeDiff, Nat.reduceLT, Nat.reduceEqDiff, Nat.add_zero, Nat.zero_add, Nat.zero_le, decide_true, Bool.true_and]
    exact s_Line_sameAs_loop l l2 Q s 0 (by omega)
  · simp only [hs, if_true, if_false, ite_true, ite_false, not_true_eq_false, not_false_eq_true, true_or, or_true, false_or, or_false, and_self, ok_n0, ok_ni, ok_nr, ok_nl, va_rf_some, va_rf_none, true_and, and_true, List.length_nil, List.length_cons, Option.toList_some, Option.toList_none, List.cons_append, List.nil_append, rK_uA, rK_uI, rK_uJ, rK_uP, rP_uA, rP_uI, rP_uJ, rJ_uA, rJ_uI, rJ_uP, rI_uJ, rI_uP, rz_uA, rz_uI, rz_uJ, rz_uP, rs_uA, rs_uI, rs_uJ, rs_uP, Nat.reduceAdd, Nat.reduceMul, Nat.reduceSub, Nat.reduceLeDiff, Nat.reduceLT, Nat.reduceEqDiff, Nat.add_zero, Nat.zero_add, Nat.zero_le, decide_false, Bool.false_and, nb_f]
theorem mix_ex : ∃ f : Int64 → Int32 → Int64, ∀ x v, f x v = x * 1000003 ^^^ v.toInt64 := ⟨_, fun _ _ => rfl⟩
noncomputable def mix1 : Int64 → Int32 → Int64 := Classical.choose mix_ex
theorem mix1_eq (x : Int64) (v : Int32) : mix1 x v = x * 1000003 ^^^ v.toInt64 := Classical.choose_spec mix_ex x v
theorem s_mix (x : Int64) (v : Int32) (h : pm_H) (Q : Option Value × pm_H → Prop) : pGo 118 0 [some (.long x), none, some (.int v)] [] h Q = Q (some (.long (mix1 x v)), h) := by
  simp only [k118_0, k118_1, k118_4, k118_5, k118_6, k118_7, k118_8, if_true, if_false, ite_true, ite_false, not_true_eq_false, not_false_eq_true, true_or, or_true, false_or, or_false, and_self, ok_n0, ok_ni, ok_nr, ok_nl, va_rf_some, va_rf_none, true_and, and_true, List.length_nil, List.length_cons, Option.toList_some, Option.toList_none, List.cons_append, List.nil_append, rK_uA, rK_uI, rK_uJ, rK_uP, rP_uA, rP_uI, rP_uJ, rJ_uA, rJ_uI, rJ_uP, rI_uJ, rI_uP, rz_uA, rz_uI, rz_uJ, rz_uP, rs_uA, rs_uI, rs_uJ, rs_uP, Nat.reduceAdd, Nat.reduceMul, Nat.reduceSub, Nat.reduceLeDiff, Nat.reduceLT, Nat.reduceEqDiff, Nat.add_zero, Nat.zero_add, Nat.zero_le, mix1_eq]
noncomputable def lmix (f : Nat → Int32) : Nat → Nat → Int64 → Int64
  | 0, _, x => x
  | m + 1, i, x => lmix f m (i + 1) (mix1 x (f i))
theorem s_Line_addTo_loop {a b n s : Nat} {h : pm_H} (l : LN h a b n s) (x0 : Int64) (Q : Option Value × pm_H → Prop) : ∀ (m i : Nat) (x : Int64), i + m = s → pGo 62 5 [some (.ref a), some (.long x0), none, some (.long x), none, some (.int (nI i))] [] h Q = Q (some (.long (lmix (rI h b) m i x)), h) := by
  obtain ⟨k1, k2, k3, k4, k5, k6, k7⟩ := id l
  intro m
  induction m with
  | zero =>
    intro i x hi
    have c1 : s ≤ i := by omega
    rw [k62_5]
    simp (disch := omega) only [k62_0, k62_1, k62_2, k62_3, k62_7, k62_8, k62_11, k62_14, k62_15, k62_16, k62_19, k62_21, k62_22, k62_25, k62_26, k62_29, k62_32, k62_33, if_true, if_false, ite_true, ite_false, not_true_eq_false, not_false_eq_true, true_or, or_true, false_or, or_false, and_self, ok_n0, ok_ni, ok_nr, ok_nl, va_rf_some, va_rf_none, true_and, and_true, List.length_nil, List.length_cons, Option.toList_some, Option.toList_none, List.cons_append, List.nil_append, rK_uA, rK_uI, rK_uJ, rK_uP, rP_uA, rP_uI, rP_uJ, rJ_uA, rJ_uI, rJ_uP, rI_uJ, rI_uP, rz_uA, rz_uI, rz_uJ, rz_uP, rs_uA, rs_uI, rs_uJ, rs_uP, Nat.reduceAdd, Nat.reduceMul, Nat.reduceSub, Nat.reduceLeDiff, Nat.reduceLT, Nat.reduceEqDiff, Nat.add_zero, Nat.zero_add, Nat.zero_le, k1, k2, k5, ar_le, c1, lmix]
  | succ m ih =>
    intro i x hi
    have c1 : ¬ s ≤ i := by omega
    have c2 : i < n := by omega
    rw [k62_5]
    simp (disch := omega) only [k62_0, k62_1, k62_2, k62_3, k62_7, k62_8, k62_11, k62_14, k62_15, k62_16, k62_19, k62_21, k62_22, k62_25, k62_26, k62_29, k62_32, k62_33, if_true, if_false, ite_true, ite_false, not_true_eq_false, not_false_eq_true, true_or, or_true, false_or, or_false, and_self, ok_n0, ok_ni, ok_nr, ok_nl, va_rf_some, va_rf_none, true_and, and_true, List.length_nil, List.length_cons, Option.toList_some, Option.toList_none, List.cons_append, List.nil_append, rK_uA, rK_uI, rK_uJ, rK_uP, rP_uA, rP_uI, rP_uJ, rJ_uA, rJ_uI, rJ_uP, rI_uJ, rI_uP, rz_uA, rz_uI, rz_uJ, rz_uP, rs_uA, rs_uI, rs_uJ, rs_uP, Nat.reduceAdd, Nat.reduceMul, Nat.reduceSub, Nat.reduceLeDiff, Nat.reduceLT, Nat.reduceEqDiff, Nat.add_zero, Nat.zero_add, Nat.zero_le, k1, k2, k5, ar_le, ar_oki, ar_cl, ar_add, k3, c1, c2, s_mix, lmix, ih]
theorem s_Line_addTo {a b n s : Nat} {h : pm_H} (l : LN h a b n s) (x0 : Int64) (Q : Option Value × pm_H → Prop) : pGo 62 0 [some (.ref a), some (.long x0), none, none, none, none] [] h Q = Q (some (.long (lmix (rI h b) s 0 x0)), h) := by
  rw [k62_0]
  simp only [k62_1, k62_2, k62_3, k62_7, k62_8, k62_11, k62_14, k62_15, k62_16, k62_19, k62_21, k62_22, k62_25, k62_26, k62_29, k62_32, k62_33, if_true, if_false, ite_true, ite_false, not_true_eq_false, not_false_eq_true, true_or, or_true, false_or, or_false, and_self, ok_n0, ok_ni, ok_nr, ok_nl, va_rf_some, va_rf_none, true_and, and_true, List.length_nil, List.length_cons, Option.toList_some, Option.toList_none, List.cons_append, List.nil_append, rK_uA, rK_uI, rK_uJ, rK_uP, rP_uA, rP_uI, rP_uJ, rJ_uA, rJ_uI, rJ_uP, rI_uJ, rI_uP, rz_uA, rz_uI, rz_uJ, rz_uP, rs_uA, rs_uI, rs_uJ, rs_uP, Nat.reduceAdd, Nat.reduceMul, Nat.reduceSub, Nat.reduceLeDiff, Nat.reduceLT, Nat.reduceEqDiff, Nat.add_zero, Nat.zero_add, Nat.zero_le]
  exact s_Line_addTo_loop l x0 Q s 0 x0 (by omega)
