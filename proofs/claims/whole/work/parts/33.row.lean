/-! ROW: a line and the place of the focus -/
def RW (h : pm_H) (r a b n s : Nat) : Prop := rK h r = (1, 6) ∧ rP h r 0 = some a ∧ LN h a b n s ∧ r ≠ a ∧ r ≠ b
theorem LN.uI_o {h : pm_H} {a b n s : Nat} (l : LN h a b n s) {q : Nat} (hq : q ≠ a) (k : Nat) (v : Int32) : LN (uI h q k v) a b n s := by
  obtain ⟨k1, k2, k3, k4, k5, k6, k7⟩ := l
  refine ⟨k1, k2, k3, k4, ?_, k6, k7⟩
  rw [rI_uI, if_neg (fun z => hq z.symm)]; exact k5
theorem LN.uA_o {h : pm_H} {a b n s : Nat} (l : LN h a b n s) {q : Nat} (hq : q ≠ a) (f : Nat → Int32) : LN (uA h q f) a b n s := by
  obtain ⟨k1, k2, k3, k4, k5, k6, k7⟩ := l
  refine ⟨k1, k2, k3, k4, ?_, k6, k7⟩
  rw [rI_uA, if_neg (fun z => hq z.symm)]; exact k5
theorem LN.sz {h : pm_H} {a b n s : Nat} (l : LN h a b n s) {t : Nat} (ht : t ≤ n) : LN (uI h a 1 (nI t)) a b n t := by
  obtain ⟨k1, k2, k3, k4, k5, k6, k7⟩ := l
  refine ⟨k1, k2, k3, k4, ?_, ht, k7⟩
  rw [rI_uI, if_pos rfl, pk_us]
theorem uA_uI_comm {h : pm_H} {a b k : Nat} (hab : ¬ a = b) (v : Int32) (f : Nat → Int32) : uA (uI h a k v) b f = uI (uA h b f) a k v := by
  have h2 : rI (uA h b f) a = rI h a := by rw [rI_uA, if_neg hab]
  rw [uI, uI, h2]
  simp only [uA]
  congr 2
  funext c
  by_cases h3 : c = a
  · have h4 : ¬ c = b := fun q => hab (by rw [← h3, q])
    simp [h3, h4, hab]
  · simp [h3]
theorem uI_uI (h : pm_H) (a k : Nat) (v w : Int32) : uI (uI h a k v) a k w = uI h a k w := by
  rw [uI_eq h, uI_uA, uI_eq h]
  congr 1
  funext j
  by_cases hj : j = k <;> simp [upd, hj]
theorem s_Row_focused {r a b n s : Nat} {h : pm_H} (w : RW h r a b n s) (Q : Option Value × pm_H → Prop) : pGo 64 0 [some (.ref r)] [] h Q = Q (some (.int (lget (rI h b) s (rI h r 1))), h) := by
  obtain ⟨k1, k2, l, k3, k4⟩ := w
  simp only [k64_0, k64_1, k64_4, k64_5, k64_8, k64_11, s_Line_get l, if_true, if_false, ite_true, ite_false, not_true_eq_false, not_false_eq_true, true_or, or_true, false_or, or_false, and_self, ok_n0, ok_ni, ok_nr, ok_nl, va_rf_some, va_rf_none, true_and, and_true, List.length_nil, List.length_cons, Option.toList_some, Option.toList_none, List.cons_append, List.nil_append, rK_uA, rK_uI, rK_uJ, rK_uP, rP_uA, rP_uI, rP_uJ, rJ_uA, rJ_uI, rJ_uP, rI_uJ, rI_uP, rz_uA, rz_uI, rz_uJ, rz_uP, rs_uA, rs_uI, rs_uJ, rs_uP, Nat.reduceAdd, Nat.reduceMul, Nat.reduceSub, Nat.reduceLeDiff, Nat.reduceLT, Nat.reduceEqDiff, Nat.add_zero, Nat.zero_add, Nat.zero_le, k1, k2, l.1]
theorem s_Row_insert {r a b n s p : Nat} {h : pm_H} (w : RW h r a b n s) (hf : (rI h r 1 = -1 ∧ p = 0) ∨ rI h r 1 = nI p) (hp : p ≤ s) (hs : s < n) (x : Int32) (Q : Option Value × pm_H → Prop) : pGo 65 0 [some (.ref r), some (.int x)] [] h Q = Q (none, uI (uA (uI h r 1 (nI p)) b (lins (rI h b) p s x)) a 1 (nI (s + 1))) := by
  obtain ⟨k1, k2, l, k3, k4⟩ := w
  have l2 : LN (uI h r 1 (nI p)) a b n s := l.uI_o k3 1 _
  have d1 : ¬ b = r := fun q => k4 q.symm
  have hm : (if rI h r 1 < nI 0 then nI 0 else rI h r 1) = nI p := by
    rcases hf with ⟨h1, h2⟩ | h1
    · rw [h1, h2]; decide +kernel
    · have := l.2.2.2.2.2.1
      have := l.2.2.2.2.2.2
      rw [h1, if_neg]
      rw [ar_lt (by omega) (by omega)]; omega
  simp only [k65_0, k65_1, k65_2, k65_5, k65_6, k65_9, k65_12, k65_13, k65_16, k65_17, k65_20, k65_21, k65_24, s_max, hm, if_true, if_false, ite_true, ite_false, not_true_eq_false, not_false_eq_true, true_or, or_true, false_or, or_false, and_self, ok_n0, ok_ni, ok_nr, ok_nl, va_rf_some, va_rf_none, true_and, and_true, List.length_nil, List.length_cons, Option.toList_some, Option.toList_none, List.cons_append, List.nil_append, rK_uA, rK_uI, rK_uJ, rK_uP, rP_uA, rP_uI, rP_uJ, rJ_uA, rJ_uI, rJ_uP, rI_uJ, rI_uP, rz_uA, rz_uI, rz_uJ, rz_uP, rs_uA, rs_uI, rs_uJ, rs_uP, Nat.reduceAdd, Nat.reduceMul, Nat.reduceSub, Nat.reduceLeDiff, Nat.reduceLT, Nat.reduceEqDiff, Nat.add_zero, Nat.zero_add, Nat.zero_le, k1, k2, l.1, rI_uI, upd_at, s_Line_insertAt l2 hp hs, d1]
theorem s_Row_remove {r a b n s g : Nat} {h : pm_H} (w : RW h r a b n s) (x : Int32) (hg : lfind (rI h b) x s 0 = nI g) (hgs : g < s) (Q : Option Value × pm_H → Prop) : pGo 66 0 [some (.ref r), some (.int x), none] [] h Q = Q (none, if nI g < rI h r 1 ∨ nI (s - 1) ≤ rI h r 1 then uI (uA (uI h a 1 (nI (s - 1))) b (lrem (rI h b) g s)) r 1 (rI h r 1 - nI 1) else uA (uI h a 1 (nI (s - 1))) b (lrem (rI h b) g s)) := by
  obtain ⟨k1, k2, l, k3, k4⟩ := w
  have d1 : ¬ r = a := k3
  have d2 : ¬ r = b := k4
  have d3 : ¬ a = b := l.2.2.2.1
  have e1 : rI h r 1 ≤ nI g ↔ ¬ nI g < rI h r 1 := by rw [Int32.not_lt]
  have e2 : rI h r 1 < nI (s - 1) ↔ ¬ nI (s - 1) ≤ rI h r 1 := by rw [Int32.not_le]
  have hsn := l.2.2.2.2.2.1
  have hn := l.2.2.2.2.2.2
  simp (disch := omega) only [k66_0, k66_1, k66_4, k66_5, k66_8, k66_9, k66_10, k66_11, k66_14, k66_15, k66_16, k66_19, k66_20, k66_23, k66_24, k66_25, k66_28, k66_31, k66_32, k66_35, k66_36, k66_39, k66_42, k66_45, k66_46, k66_46i, k66_47, k66_50, k66_51, k66_52, k66_55, s_Line_find l, s_Line_removeAt l hgs, hg, ar_nm, ar_mn, if_true, if_false, ite_true, ite_false, not_true_eq_false, not_false_eq_true, true_or, or_true, false_or, or_false, and_self, ok_n0, ok_ni, ok_nr, ok_nl, va_rf_some, va_rf_none, true_and, and_true, List.length_nil, List.length_cons, Option.toList_some, Option.toList_none, List.cons_append, List.nil_append, rK_uA, rK_uI, rK_uJ, rK_uP, rP_uA, rP_uI, rP_uJ, rJ_uA, rJ_uI, rJ_uP, rI_uJ, rI_uP, rz_uA, rz_uI, rz_uJ, rz_uP, rs_uA, rs_uI, rs_uJ, rs_uP, Nat.reduceAdd, Nat.reduceMul, Nat.reduceSub, Nat.reduceLeDiff, Nat.reduceLT, Nat.reduceEqDiff, Nat.add_zero, Nat.zero_add, Nat.zero_le, k1, k2, l.1, rI_uI, rI_uA, upd_at, d1, d2, d3, e1, e2]
  by_cases c1 : nI g < rI h r 1
  · simp only [c1, if_true, if_false, ite_true, ite_false, not_true_eq_false, not_false_eq_true, true_or, or_true, false_or, or_false, and_self, ok_n0, ok_ni, ok_nr, ok_nl, va_rf_some, va_rf_none, true_and, and_true, List.length_nil, List.length_cons, Option.toList_some, Option.toList_none, List.cons_append, List.nil_append, rK_uA, rK_uI, rK_uJ, rK_uP, rP_uA, rP_uI, rP_uJ, rJ_uA, rJ_uI, rJ_uP, rI_uJ, rI_uP, rz_uA, rz_uI, rz_uJ, rz_uP, rs_uA, rs_uI, rs_uJ, rs_uP, Nat.reduceAdd, Nat.reduceMul, Nat.reduceSub, Nat.reduceLeDiff, Nat.reduceLT, Nat.reduceEqDiff, Nat.add_zero, Nat.zero_add, Nat.zero_le]
  · by_cases c2 : nI (s - 1) ≤ rI h r 1
    · simp only [c1, c2, if_true, if_false, ite_true, ite_false, not_true_eq_false, not_false_eq_true, true_or, or_true, false_or, or_false, and_self, ok_n0, ok_ni, ok_nr, ok_nl, va_rf_some, va_rf_none, true_and, and_true, List.length_nil, List.length_cons, Option.toList_some, Option.toList_none, List.cons_append, List.nil_append, rK_uA, rK_uI, rK_uJ, rK_uP, rP_uA, rP_uI, rP_uJ, rJ_uA, rJ_uI, rJ_uP, rI_uJ, rI_uP, rz_uA, rz_uI, rz_uJ, rz_uP, rs_uA, rs_uI, rs_uJ, rs_uP, Nat.reduceAdd, Nat.reduceMul, Nat.reduceSub, Nat.reduceLeDiff, Nat.reduceLT, Nat.reduceEqDiff, Nat.add_zero, Nat.zero_add, Nat.zero_le]
    · simp only [c1, c2, if_true, if_false, ite_true, ite_false, not_true_eq_false, not_false_eq_true, true_or, or_true, false_or, or_false, and_self, ok_n0, ok_ni, ok_nr, ok_nl, va_rf_some, va_rf_none, true_and, and_true, List.length_nil, List.length_cons, Option.toList_some, Option.toList_none, List.cons_append, List.nil_append, rK_uA, rK_uI, rK_uJ, rK_uP, rP_uA, rP_uI, rP_uJ, rJ_uA, rJ_uI, rJ_uP, rI_uJ, rI_uP, rz_uA, rz_uI, rz_uJ, rz_uP, rs_uA, rs_uI, rs_uJ, rs_uP, Nat.reduceAdd, Nat.reduceMul, Nat.reduceSub, Nat.reduceLeDiff, Nat.reduceLT, Nat.reduceEqDiff, Nat.add_zero, Nat.zero_add, Nat.zero_le]
theorem s_Row_turnTo {r a b n s : Nat} {h : pm_H} (w : RW h r a b n s) (x : Int32) (Q : Option Value × pm_H → Prop) : pGo 67 0 [some (.ref r), some (.int x)] [] h Q = Q (none, uI h r 1 (lfind (rI h b) x s 0)) := by
  obtain ⟨k1, k2, l, k3, k4⟩ := w
  simp only [k67_0, k67_1, k67_2, k67_5, k67_6, k67_9, k67_12, s_Line_find l, if_true, if_false, ite_true, ite_false, not_true_eq_false, not_false_eq_true, true_or, or_true, false_or, or_false, and_self, ok_n0, ok_ni, ok_nr, ok_nl, va_rf_some, va_rf_none, true_and, and_true, List.length_nil, List.length_cons, Option.toList_some, Option.toList_none, List.cons_append, List.nil_append, rK_uA, rK_uI, rK_uJ, rK_uP, rP_uA, rP_uI, rP_uJ, rJ_uA, rJ_uI, rJ_uP, rI_uJ, rI_uP, rz_uA, rz_uI, rz_uJ, rz_uP, rs_uA, rs_uI, rs_uJ, rs_uP, Nat.reduceAdd, Nat.reduceMul, Nat.reduceSub, Nat.reduceLeDiff, Nat.reduceLT, Nat.reduceEqDiff, Nat.add_zero, Nat.zero_add, Nat.zero_le, k1, k2, l.1]
def fmod (a b : Int32) : Int32 := if a ^^^ b < nI 0 ∧ ¬ a - a / b * b = nI 0 then a - a / b * b + b else a - a / b * b
theorem s_floorMod (a b : Int32) (h : pm_H) (Q : Option Value × pm_H → Prop) (hb : ¬ b = nI 0) : pGo 181 0 [some (.int a), some (.int b), none] [] h Q = Q (some (.int (fmod a b)), h) := by
  have e1 : nI 0 ≤ a ^^^ b ↔ ¬ a ^^^ b < nI 0 := by rw [Int32.not_lt]
  simp only [k181_0, k181_1, k181_2, k181_3, k181_4, k181_5, k181_6, k181_7, k181_10, k181_11, k181_14, k181_15, k181_16, k181_17, k181_18, k181_19, if_true, if_false, ite_true, ite_false, not_true_eq_false, not_false_eq_true, true_or, or_true, false_or, or_false, and_self, ok_n0, ok_ni, ok_nr, ok_nl, va_rf_some, va_rf_none, true_and, and_true, List.length_nil, List.length_cons, Option.toList_some, Option.toList_none, List.cons_append, List.nil_append, rK_uA, rK_uI, rK_uJ, rK_uP, rP_uA, rP_uI, rP_uJ, rJ_uA, rJ_uI, rJ_uP, rI_uJ, rI_uP, rz_uA, rz_uI, rz_uJ, rz_uP, rs_uA, rs_uI, rs_uJ, rs_uP, Nat.reduceAdd, Nat.reduceMul, Nat.reduceSub, Nat.reduceLeDiff, Nat.reduceLT, Nat.reduceEqDiff, Nat.add_zero, Nat.zero_add, Nat.zero_le, hb, e1, fmod]
  by_cases c1 : a ^^^ b < nI 0
  · by_cases c2 : a - a / b * b = nI 0
    · simp only [c1, c2, if_true, if_false, ite_true, ite_false, not_true_eq_false, not_false_eq_true, true_or, or_true, false_or, or_false, and_self, ok_n0, ok_ni, ok_nr, ok_nl, va_rf_some, va_rf_none, true_and, and_true, List.length_nil, List.length_cons, Option.toList_some, Option.toList_none, List.cons_append, List.nil_append, rK_uA, rK_uI, rK_uJ, rK_uP, rP_uA, rP_uI, rP_uJ, rJ_uA, rJ_uI, rJ_uP, rI_uJ, rI_uP, rz_uA, rz_uI, rz_uJ, rz_uP, rs_uA, rs_uI, rs_uJ, rs_uP, Nat.reduceAdd, Nat.reduceMul, Nat.reduceSub, Nat.reduceLeDiff, Nat.reduceLT, Nat.reduceEqDiff, Nat.add_zero, Nat.zero_add, Nat.zero_le, and_false]
    · simp only [c1, c2, if_true, if_false, ite_true, ite_false, not_true_eq_false, not_false_eq_true, true_or, or_true, false_or, or_false, and_self, ok_n0, ok_ni, ok_nr, ok_nl, va_rf_some, va_rf_none, true_and, and_true, List.length_nil, List.length_cons, Option.toList_some, Option.toList_none, List.cons_append, List.nil_append, rK_uA, rK_uI, rK_uJ, rK_uP, rP_uA, rP_uI, rP_uJ, rJ_uA, rJ_uI, rJ_uP, rI_uJ, rI_uP, rz_uA, rz_uI, rz_uJ, rz_uP, rs_uA, rs_uI, rs_uJ, rs_uP, Nat.reduceAdd, Nat.reduceMul, Nat.reduceSub, Nat.reduceLeDiff, Nat.reduceLT, Nat.reduceEqDiff, Nat.add_zero, Nat.zero_add, Nat.zero_le]
  · simp only [c1, if_true, if_false, ite_true, ite_false, not_true_eq_false, not_false_eq_true, true_or, or_true, false_or, or_false, and_self, ok_n0, ok_ni, ok_nr, ok_nl, va_rf_some, va_rf_none, true_and, and_true, List.length_nil, List.length_cons, Option.toList_some, Option.toList_none, List.cons_append, List.nil_append, rK_uA, rK_uI, rK_uJ, rK_uP, rP_uA, rP_uI, rP_uJ, rJ_uA, rJ_uI, rJ_uP, rI_uJ, rI_uP, rz_uA, rz_uI, rz_uJ, rz_uP, rs_uA, rs_uI, rs_uJ, rs_uP, Nat.reduceAdd, Nat.reduceMul, Nat.reduceSub, Nat.reduceLeDiff, Nat.reduceLT, Nat.reduceEqDiff, Nat.add_zero, Nat.zero_add, Nat.zero_le, false_and]
theorem fmod_m1 : ∀ s, s < 61 → 1 ≤ s → fmod (nI 0 - nI 1) (nI s) = nI (s - 1) := by decide +kernel
theorem fmod_n : ∀ s, s < 61 → 1 ≤ s → ∀ x, x < 121 → fmod (nI x) (nI s) = nI (x % s) := by decide +kernel
theorem s_Row_carryFocus {r a b n s p f : Nat} {h : pm_H} (w : RW h r a b n s) (hf : rI h r 1 = nI f) (hfs : f < s) (hp : p < s) (Q : Option Value × pm_H → Prop) : pGo 69 0 [some (.ref r), some (.int (nI p)), none] [] h Q = Q (none, uI (uI (uA h b (lins (lrem (rI h b) f s) p (s - 1) (rI h b f))) a 1 (nI s)) r 1 (nI p)) := by
  obtain ⟨k1, k2, l, k3, k4⟩ := id w
  have d1 : ¬ r = a := k3
  have d2 : ¬ r = b := k4
  have d3 : ¬ a = b := l.2.2.2.1
  have d4 : ¬ b = a := fun q => d3 q.symm
  have hsn := l.2.2.2.2.2.1
  have hn := l.2.2.2.2.2.2
  have l2 : LN (uI (uA h b (lrem (rI h b) f s)) a 1 (nI (s - 1))) a b n (s - 1) := (l.uA_o d4 _).sz (t := s - 1) (by omega)
  have e9 : s - 1 + 1 = s := by omega
  simp (disch := omega) only [k69_0, k69_1, k69_4, k69_5, k69_6, k69_9, k69_10, k69_13, k69_16, k69_17, k69_20, k69_21, k69_22, k69_25, k69_26, k69_27, k69_30, s_Row_focused w, s_Line_removeAt l hfs, s_Line_insertAt l2 (show p ≤ s - 1 by omega) (show s - 1 < n by omega), lget_nI hfs (show s < 2147483648 by omega), if_true, if_false, ite_true, ite_false, not_true_eq_false, not_false_eq_true, true_or, or_true, false_or, or_false, and_self, ok_n0, ok_ni, ok_nr, ok_nl, va_rf_some, va_rf_none, true_and, and_true, List.length_nil, List.length_cons, Option.toList_some, Option.toList_none, List.cons_append, List.nil_append, rK_uA, rK_uI, rK_uJ, rK_uP, rP_uA, rP_uI, rP_uJ, rJ_uA, rJ_uI, rJ_uP, rI_uJ, rI_uP, rz_uA, rz_uI, rz_uJ, rz_uP, rs_uA, rs_uI, rs_uJ, rs_uP, Nat.reduceAdd, Nat.reduceMul, Nat.reduceSub, Nat.reduceLeDiff, Nat.reduceLT, Nat.reduceEqDiff, Nat.add_zero, Nat.zero_add, Nat.zero_le, k1, k2, l.1, hf, rI_uI, rI_uA, upd_at, d1, d2, d3, d4, uA_uA, e9, uA_uI_comm d3, uI_uI]
/-- the row behind rearrange(what), with the focus at f of s -/
def rarr (h : pm_H) (r a b s f : Nat) (what : Int32) : pm_H :=
  if what = nI 0 then uI h r 1 (nI ((f + s - 1) % s)) else if what = nI 1 then uI h r 1 (nI ((f + 1) % s)) else if what = nI 2 then uI h r 1 (nI 0)
  else if what = nI 3 then uI (uI (uA h b (lins (lrem (rI h b) f s) ((f + s - 1) % s) (s - 1) (rI h b f))) a 1 (nI s)) r 1 (nI ((f + s - 1) % s))
  else if what = nI 4 then uI (uI (uA h b (lins (lrem (rI h b) f s) ((f + 1) % s) (s - 1) (rI h b f))) a 1 (nI s)) r 1 (nI ((f + 1) % s))
  else if what = nI 5 then uI (uA h b (upd (upd (rI h b) 0 (rI h b f)) f (rI h b 0))) r 1 (nI 0)
  else if what = nI 6 then uI (uI (uA h b (lins (lrem (rI h b) f s) 0 (s - 1) (rI h b f))) a 1 (nI s)) r 1 (nI 0)
  else h
theorem s_Row_rearrange0 {r a b n : Nat} {h : pm_H} (w : RW h r a b n 0) (what : Int32) (Q : Option Value × pm_H → Prop) : pGo 68 0 [some (.ref r), some (.int what), none, none] [] h Q = Q (none, h) := by
  obtain ⟨k1, k2, l, k3, k4⟩ := id w
  simp only [k68_0, k68_1, k68_4, k68_7, k68_10, k68_11, k68_12, k68_15, k68_16, k68_17, k68_18, k68_21, k68_24, k68_27, k68_28, k68_29, k68_32, k68_33, k68_34, k68_35, k68_38, k68_41, k68_44, k68_45, k68_46, k68_88, k68_89, k68_90, k68_93, k68_96, k68_97, k68_98, k68_101, k68_104, k68_105, k68_106, k68_109, k68_112, k68_113, k68_114, k68_117, k68_120, k68_121, k68_122, k68_125, k68_128, k68_129, k68_132, k68_133, k68_134, k68_137, k68_140, k68_141, k68_142, k68_145, k68_148, k68_149, k68_150, k68_153, k68_156, if_true, if_false, ite_true, ite_false, not_true_eq_false, not_false_eq_true, true_or, or_true, false_or, or_false, and_self, ok_n0, ok_ni, ok_nr, ok_nl, va_rf_some, va_rf_none, true_and, and_true, List.length_nil, List.length_cons, Option.toList_some, Option.toList_none, List.cons_append, List.nil_append, rK_uA, rK_uI, rK_uJ, rK_uP, rP_uA, rP_uI, rP_uJ, rJ_uA, rJ_uI, rJ_uP, rI_uJ, rI_uP, rz_uA, rz_uI, rz_uJ, rz_uP, rs_uA, rs_uI, rs_uJ, rs_uP, Nat.reduceAdd, Nat.reduceMul, Nat.reduceSub, Nat.reduceLeDiff, Nat.reduceLT, Nat.reduceEqDiff, Nat.add_zero, Nat.zero_add, Nat.zero_le, k1, k2, l.1, l.2.2.2.2.1]
theorem s_Row_rearrange {r a b s f : Nat} {h : pm_H} (w : RW h r a b 60 s) (hf : rI h r 1 = nI f) (hfs : f < s) (what : Int32) (Q : Option Value × pm_H → Prop) : pGo 68 0 [some (.ref r), some (.int what), none, none] [] h Q = Q (none, rarr h r a b s f what) := by
  obtain ⟨k1, k2, l, k3, k4⟩ := id w
  have hsn := l.2.2.2.2.2.1
  have k5 := l.2.2.2.2.1
  have hs0 : ¬ s = 0 := by omega
  have hup : fmod (nI f - nI 1) (nI s) = nI ((f + s - 1) % s) := by
    by_cases h0 : f = 0
    · subst h0
      rw [fmod_m1 s (by omega) (by omega), Nat.mod_eq_of_lt (by omega)]
      congr 1; omega
    · rw [ar_sub (by omega), fmod_n s (by omega) (by omega) _ (by omega), show f + s - 1 = (f - 1) + s by omega, Nat.add_mod_right]
  have hdn : fmod (nI f + nI 1) (nI s) = nI ((f + 1) % s) := by
    rw [ar_add, fmod_n s (by omega) (by omega) _ (by omega)]
  have m1 : (f + s - 1) % s < s := Nat.mod_lt _ (by omega)
  have m2 : (f + 1) % s < s := Nat.mod_lt _ (by omega)
  have m3 : 0 < s := by omega
  have e0 : ¬ nI s = nI 0 := by rw [ar_eq (by omega) (by omega)]; exact hs0
  simp only [k68_0, k68_1, k68_4, k68_7, k68_10, k68_11, k68_12, k68_15, k68_16, k68_17, k68_18, k68_21, k68_24, k68_27, k68_28, k68_29, k68_32, k68_33, k68_34, k68_35, k68_38, k68_41, k68_44, k68_45, k68_46, k68_88, k68_89, k68_90, k68_93, k68_96, k68_97, k68_98, k68_101, k68_104, k68_105, k68_106, k68_109, k68_112, k68_113, k68_114, k68_117, k68_120, k68_121, k68_122, k68_125, k68_128, k68_129, k68_132, k68_133, k68_134, k68_137, k68_140, k68_141, k68_142, k68_145, k68_148, k68_149, k68_150, k68_153, k68_156, s_floorMod _ _ _ _ e0, if_true, if_false, ite_true, ite_false, not_true_eq_false, not_false_eq_true, true_or, or_true, false_or, or_false, and_self, ok_n0, ok_ni, ok_nr, ok_nl, va_rf_some, va_rf_none, true_and, and_true, List.length_nil, List.length_cons, Option.toList_some, Option.toList_none, List.cons_append, List.nil_append, rK_uA, rK_uI, rK_uJ, rK_uP, rP_uA, rP_uI, rP_uJ, rJ_uA, rJ_uI, rJ_uP, rI_uJ, rI_uP, rz_uA, rz_uI, rz_uJ, rz_uP, rs_uA, rs_uI, rs_uJ, rs_uP, Nat.reduceAdd, Nat.reduceMul, Nat.reduceSub, Nat.reduceLeDiff, Nat.reduceLT, Nat.reduceEqDiff, Nat.add_zero, Nat.zero_add, Nat.zero_le, k1, k2, l.1, k5, e0, hf, hup, hdn, rarr]
  by_cases h0 : what = nI 0
  · subst h0
    simp (disch := omega) only [gsw, ar_eq, if_true, if_false, ite_true, ite_false, not_true_eq_false, not_false_eq_true, true_or, or_true, false_or, or_false, and_self, ok_n0, ok_ni, ok_nr, ok_nl, va_rf_some, va_rf_none, true_and, and_true, List.length_nil, List.length_cons, Option.toList_some, Option.toList_none, List.cons_append, List.nil_append, rK_uA, rK_uI, rK_uJ, rK_uP, rP_uA, rP_uI, rP_uJ, rJ_uA, rJ_uI, rJ_uP, rI_uJ, rI_uP, rz_uA, rz_uI, rz_uJ, rz_uP, rs_uA, rs_uI, rs_uJ, rs_uP, Nat.reduceAdd, Nat.reduceMul, Nat.reduceSub, Nat.reduceLeDiff, Nat.reduceLT, Nat.reduceEqDiff, Nat.add_zero, Nat.zero_add, Nat.zero_le, k68_0, k68_1, k68_4, k68_7, k68_10, k68_11, k68_12, k68_15, k68_16, k68_17, k68_18, k68_21, k68_24, k68_27, k68_28, k68_29, k68_32, k68_33, k68_34, k68_35, k68_38, k68_41, k68_44, k68_45, k68_46, k68_88, k68_89, k68_90, k68_93, k68_96, k68_97, k68_98, k68_101, k68_104, k68_105, k68_106, k68_109, k68_112, k68_113, k68_114, k68_117, k68_120, k68_121, k68_122, k68_125, k68_128, k68_129, k68_132, k68_133, k68_134, k68_137, k68_140, k68_141, k68_142, k68_145, k68_148, k68_149, k68_150, k68_153, k68_156, s_Row_carryFocus w hf hfs m1, s_Row_carryFocus w hf hfs m2, s_Row_carryFocus w hf hfs m3, s_Line_exchange l m3 hfs, k1, k2, l.1, hf]
  · skip
    by_cases h1 : what = nI 1
    · subst h1
      simp (disch := omega) only [gsw, ar_eq, if_true, if_false, ite_true, ite_false, not_true_eq_false, not_false_eq_true, true_or, or_true, false_or, or_false, and_self, ok_n0, ok_ni, ok_nr, ok_nl, va_rf_some, va_rf_none, true_and, and_true, List.length_nil, List.length_cons, Option.toList_some, Option.toList_none, List.cons_append, List.nil_append, rK_uA, rK_uI, rK_uJ, rK_uP, rP_uA, rP_uI, rP_uJ, rJ_uA, rJ_uI, rJ_uP, rI_uJ, rI_uP, rz_uA, rz_uI, rz_uJ, rz_uP, rs_uA, rs_uI, rs_uJ, rs_uP, Nat.reduceAdd, Nat.reduceMul, Nat.reduceSub, Nat.reduceLeDiff, Nat.reduceLT, Nat.reduceEqDiff, Nat.add_zero, Nat.zero_add, Nat.zero_le, k68_0, k68_1, k68_4, k68_7, k68_10, k68_11, k68_12, k68_15, k68_16, k68_17, k68_18, k68_21, k68_24, k68_27, k68_28, k68_29, k68_32, k68_33, k68_34, k68_35, k68_38, k68_41, k68_44, k68_45, k68_46, k68_88, k68_89, k68_90, k68_93, k68_96, k68_97, k68_98, k68_101, k68_104, k68_105, k68_106, k68_109, k68_112, k68_113, k68_114, k68_117, k68_120, k68_121, k68_122, k68_125, k68_128, k68_129, k68_132, k68_133, k68_134, k68_137, k68_140, k68_141, k68_142, k68_145, k68_148, k68_149, k68_150, k68_153, k68_156, s_Row_carryFocus w hf hfs m1, s_Row_carryFocus w hf hfs m2, s_Row_carryFocus w hf hfs m3, s_Line_exchange l m3 hfs, k1, k2, l.1, hf]
    · skip
      by_cases h2 : what = nI 2
      · subst h2
        simp (disch := omega) only [gsw, ar_eq, if_true, if_false, ite_true, ite_false, not_true_eq_false, not_false_eq_true, true_or, or_true, false_or, or_false, and_self, ok_n0, ok_ni, ok_nr, ok_nl, va_rf_some, va_rf_none, true_and, and_true, List.length_nil, List.length_cons, Option.toList_some, Option.toList_none, List.cons_append, List.nil_append, rK_uA, rK_uI, rK_uJ, rK_uP, rP_uA, rP_uI, rP_uJ, rJ_uA, rJ_uI, rJ_uP, rI_uJ, rI_uP, rz_uA, rz_uI, rz_uJ, rz_uP, rs_uA, rs_uI, rs_uJ, rs_uP, Nat.reduceAdd, Nat.reduceMul, Nat.reduceSub, Nat.reduceLeDiff, Nat.reduceLT, Nat.reduceEqDiff, Nat.add_zero, Nat.zero_add, Nat.zero_le, k68_0, k68_1, k68_4, k68_7, k68_10, k68_11, k68_12, k68_15, k68_16, k68_17, k68_18, k68_21, k68_24, k68_27, k68_28, k68_29, k68_32, k68_33, k68_34, k68_35, k68_38, k68_41, k68_44, k68_45, k68_46, k68_88, k68_89, k68_90, k68_93, k68_96, k68_97, k68_98, k68_101, k68_104, k68_105, k68_106, k68_109, k68_112, k68_113, k68_114, k68_117, k68_120, k68_121, k68_122, k68_125, k68_128, k68_129, k68_132, k68_133, k68_134, k68_137, k68_140, k68_141, k68_142, k68_145, k68_148, k68_149, k68_150, k68_153, k68_156, s_Row_carryFocus w hf hfs m1, s_Row_carryFocus w hf hfs m2, s_Row_carryFocus w hf hfs m3, s_Line_exchange l m3 hfs, k1, k2, l.1, hf]
      · skip
        by_cases h3 : what = nI 3
        · subst h3
          simp (disch := omega) only [gsw, ar_eq, if_true, if_false, ite_true, ite_false, not_true_eq_false, not_false_eq_true, true_or, or_true, false_or, or_false, and_self, ok_n0, ok_ni, ok_nr, ok_nl, va_rf_some, va_rf_none, true_and, and_true, List.length_nil, List.length_cons, Option.toList_some, Option.toList_none, List.cons_append, List.nil_append, rK_uA, rK_uI, rK_uJ, rK_uP, rP_uA, rP_uI, rP_uJ, rJ_uA, rJ_uI, rJ_uP, rI_uJ, rI_uP, rz_uA, rz_uI, rz_uJ, rz_uP, rs_uA, rs_uI, rs_uJ, rs_uP, Nat.reduceAdd, Nat.reduceMul, Nat.reduceSub, Nat.reduceLeDiff, Nat.reduceLT, Nat.reduceEqDiff, Nat.add_zero, Nat.zero_add, Nat.zero_le, k68_0, k68_1, k68_4, k68_7, k68_10, k68_11, k68_12, k68_15, k68_16, k68_17, k68_18, k68_21, k68_24, k68_27, k68_28, k68_29, k68_32, k68_33, k68_34, k68_35, k68_38, k68_41, k68_44, k68_45, k68_46, k68_88, k68_89, k68_90, k68_93, k68_96, k68_97, k68_98, k68_101, k68_104, k68_105, k68_106, k68_109, k68_112, k68_113, k68_114, k68_117, k68_120, k68_121, k68_122, k68_125, k68_128, k68_129, k68_132, k68_133, k68_134, k68_137, k68_140, k68_141, k68_142, k68_145, k68_148, k68_149, k68_150, k68_153, k68_156, s_Row_carryFocus w hf hfs m1, s_Row_carryFocus w hf hfs m2, s_Row_carryFocus w hf hfs m3, s_Line_exchange l m3 hfs, k1, k2, l.1, hf]
        · skip
          by_cases h4 : what = nI 4
          · subst h4
            simp (disch := omega) only [gsw, ar_eq, if_true, if_false, ite_true, ite_false, not_true_eq_false, not_false_eq_true, true_or, or_true, false_or, or_false, and_self, ok_n0, ok_ni, ok_nr, ok_nl, va_rf_some, va_rf_none, true_and, and_true, List.length_nil, List.length_cons, Option.toList_some, Option.toList_none, List.cons_append, List.nil_append, rK_uA, rK_uI, rK_uJ, rK_uP, rP_uA, rP_uI, rP_uJ, rJ_uA, rJ_uI, rJ_uP, rI_uJ, rI_uP, rz_uA, rz_uI, rz_uJ, rz_uP, rs_uA, rs_uI, rs_uJ, rs_uP, Nat.reduceAdd, Nat.reduceMul, Nat.reduceSub, Nat.reduceLeDiff, Nat.reduceLT, Nat.reduceEqDiff, Nat.add_zero, Nat.zero_add, Nat.zero_le, k68_0, k68_1, k68_4, k68_7, k68_10, k68_11, k68_12, k68_15, k68_16, k68_17, k68_18, k68_21, k68_24, k68_27, k68_28, k68_29, k68_32, k68_33, k68_34, k68_35, k68_38, k68_41, k68_44, k68_45, k68_46, k68_88, k68_89, k68_90, k68_93, k68_96, k68_97, k68_98, k68_101, k68_104, k68_105, k68_106, k68_109, k68_112, k68_113, k68_114, k68_117, k68_120, k68_121, k68_122, k68_125, k68_128, k68_129, k68_132, k68_133, k68_134, k68_137, k68_140, k68_141, k68_142, k68_145, k68_148, k68_149, k68_150, k68_153, k68_156, s_Row_carryFocus w hf hfs m1, s_Row_carryFocus w hf hfs m2, s_Row_carryFocus w hf hfs m3, s_Line_exchange l m3 hfs, k1, k2, l.1, hf]
          · skip
            by_cases h5 : what = nI 5
            · subst h5
              simp (disch := omega) only [gsw, ar_eq, if_true, if_false, ite_true, ite_false, not_true_eq_false, not_false_eq_true, true_or, or_true, false_or, or_false, and_self, ok_n0, ok_ni, ok_nr, ok_nl, va_rf_some, va_rf_none, true_and, and_true, List.length_nil, List.length_cons, Option.toList_some, Option.toList_none, List.cons_append, List.nil_append, rK_uA, rK_uI, rK_uJ, rK_uP, rP_uA, rP_uI, rP_uJ, rJ_uA, rJ_uI, rJ_uP, rI_uJ, rI_uP, rz_uA, rz_uI, rz_uJ, rz_uP, rs_uA, rs_uI, rs_uJ, rs_uP, Nat.reduceAdd, Nat.reduceMul, Nat.reduceSub, Nat.reduceLeDiff, Nat.reduceLT, Nat.reduceEqDiff, Nat.add_zero, Nat.zero_add, Nat.zero_le, k68_0, k68_1, k68_4, k68_7, k68_10, k68_11, k68_12, k68_15, k68_16, k68_17, k68_18, k68_21, k68_24, k68_27, k68_28, k68_29, k68_32, k68_33, k68_34, k68_35, k68_38, k68_41, k68_44, k68_45, k68_46, k68_88, k68_89, k68_90, k68_93, k68_96, k68_97, k68_98, k68_101, k68_104, k68_105, k68_106, k68_109, k68_112, k68_113, k68_114, k68_117, k68_120, k68_121, k68_122, k68_125, k68_128, k68_129, k68_132, k68_133, k68_134, k68_137, k68_140, k68_141, k68_142, k68_145, k68_148, k68_149, k68_150, k68_153, k68_156, s_Row_carryFocus w hf hfs m1, s_Row_carryFocus w hf hfs m2, s_Row_carryFocus w hf hfs m3, s_Line_exchange l m3 hfs, k1, k2, l.1, hf]
            · skip
              by_cases h6 : what = nI 6
              · subst h6
                simp (disch := omega) only [gsw, ar_eq, if_true, if_false, ite_true, ite_false, not_true_eq_false, not_false_eq_true, true_or, or_true, false_or, or_false, and_self, ok_n0, ok_ni, ok_nr, ok_nl, va_rf_some, va_rf_none, true_and, and_true, List.length_nil, List.length_cons, Option.toList_some, Option.toList_none, List.cons_append, List.nil_append, rK_uA, rK_uI, rK_uJ, rK_uP, rP_uA, rP_uI, rP_uJ, rJ_uA, rJ_uI, rJ_uP, rI_uJ, rI_uP, rz_uA, rz_uI, rz_uJ, rz_uP, rs_uA, rs_uI, rs_uJ, rs_uP, Nat.reduceAdd, Nat.reduceMul, Nat.reduceSub, Nat.reduceLeDiff, Nat.reduceLT, Nat.reduceEqDiff, Nat.add_zero, Nat.zero_add, Nat.zero_le, k68_0, k68_1, k68_4, k68_7, k68_10, k68_11, k68_12, k68_15, k68_16, k68_17, k68_18, k68_21, k68_24, k68_27, k68_28, k68_29, k68_32, k68_33, k68_34, k68_35, k68_38, k68_41, k68_44, k68_45, k68_46, k68_88, k68_89, k68_90, k68_93, k68_96, k68_97, k68_98, k68_101, k68_104, k68_105, k68_106, k68_109, k68_112, k68_113, k68_114, k68_117, k68_120, k68_121, k68_122, k68_125, k68_128, k68_129, k68_132, k68_133, k68_134, k68_137, k68_140, k68_141, k68_142, k68_145, k68_148, k68_149, k68_150, k68_153, k68_156, s_Row_carryFocus w hf hfs m1, s_Row_carryFocus w hf hfs m2, s_Row_carryFocus w hf hfs m3, s_Line_exchange l m3 hfs, k1, k2, l.1, hf]
              · skip
                simp (disch := omega) only [gsw, if_true, if_false, ite_true, ite_false, not_true_eq_false, not_false_eq_true, true_or, or_true, false_or, or_false, and_self, ok_n0, ok_ni, ok_nr, ok_nl, va_rf_some, va_rf_none, true_and, and_true, List.length_nil, List.length_cons, Option.toList_some, Option.toList_none, List.cons_append, List.nil_append, rK_uA, rK_uI, rK_uJ, rK_uP, rP_uA, rP_uI, rP_uJ, rJ_uA, rJ_uI, rJ_uP, rI_uJ, rI_uP, rz_uA, rz_uI, rz_uJ, rz_uP, rs_uA, rs_uI, rs_uJ, rs_uP, Nat.reduceAdd, Nat.reduceMul, Nat.reduceSub, Nat.reduceLeDiff, Nat.reduceLT, Nat.reduceEqDiff, Nat.add_zero, Nat.zero_add, Nat.zero_le, h0, h1, h2, h3, h4, h5, h6, k68_0, k68_1, k68_4, k68_7, k68_10, k68_11, k68_12, k68_15, k68_16, k68_17, k68_18, k68_21, k68_24, k68_27, k68_28, k68_29, k68_32, k68_33, k68_34, k68_35, k68_38, k68_41, k68_44, k68_45, k68_46, k68_88, k68_89, k68_90, k68_93, k68_96, k68_97, k68_98, k68_101, k68_104, k68_105, k68_106, k68_109, k68_112, k68_113, k68_114, k68_117, k68_120, k68_121, k68_122, k68_125, k68_128, k68_129, k68_132, k68_133, k68_134, k68_137, k68_140, k68_141, k68_142, k68_145, k68_148, k68_149, k68_150, k68_153, k68_156, s_Row_carryFocus w hf hfs m1, s_Row_carryFocus w hf hfs m2, s_Row_carryFocus w hf hfs m3, s_Line_exchange l m3 hfs, k1, k2, l.1, hf]
