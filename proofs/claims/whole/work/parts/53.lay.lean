/-! THE MODEL: layouts, in its four rows of numbers -/
abbrev T4 : Type := (Nat → Int32) × (Nat → Int32) × (Nat → Int32) × (Nat → Int32)
def HT (h : pm_H) (M : Nat) (A : T4) : pm_H := uA (uA (uA (uA h (M + 5) A.1) (M + 6) A.2.1) (M + 7) A.2.2.1) (M + 8) A.2.2.2
def t4 (h : pm_H) (M : Nat) : T4 := (rI h (M + 5), rI h (M + 6), rI h (M + 7), rI h (M + 8))
theorem rK_HT (h : pm_H) (M : Nat) (A : T4) : rK (HT h M A) = rK h := rfl
theorem rP_HT (h : pm_H) (M : Nat) (A : T4) : rP (HT h M A) = rP h := rfl
theorem rJ_HT (h : pm_H) (M : Nat) (A : T4) : rJ (HT h M A) = rJ h := rfl
theorem rI_HTo (h : pm_H) (M : Nat) (A : T4) {b : Nat} (hb : b < M + 5 ∨ M + 8 < b) : rI (HT h M A) b = rI h b := by
  rw [HT, rI_uA, if_neg (by omega), rI_uA, if_neg (by omega), rI_uA, if_neg (by omega), rI_uA, if_neg (by omega)]
theorem rI_HTM (h : pm_H) (M : Nat) (A : T4) : rI (HT h M A) M = rI h M := rI_HTo h M A (by omega)
theorem rI_HT5 (h : pm_H) (M : Nat) (A : T4) : rI (HT h M A) (M + 5) = A.1 := by
  rw [HT, rI_uA, if_neg (by omega), rI_uA, if_neg (by omega), rI_uA, if_neg (by omega), rI_uA, if_pos rfl]
theorem rI_HT6 (h : pm_H) (M : Nat) (A : T4) : rI (HT h M A) (M + 6) = A.2.1 := by
  rw [HT, rI_uA, if_neg (by omega), rI_uA, if_neg (by omega), rI_uA, if_pos rfl]
theorem rI_HT7 (h : pm_H) (M : Nat) (A : T4) : rI (HT h M A) (M + 7) = A.2.2.1 := by
  rw [HT, rI_uA, if_neg (by omega), rI_uA, if_pos rfl]
theorem rI_HT8 (h : pm_H) (M : Nat) (A : T4) : rI (HT h M A) (M + 8) = A.2.2.2 := by
  rw [HT, rI_uA, if_pos rfl]
theorem uA_comm (h : pm_H) {a b : Nat} (hab : ¬ a = b) (f g : Nat → Int32) : uA (uA h a f) b g = uA (uA h b g) a f := by
  simp only [uA]
  congr 2
  funext c
  by_cases h1 : c = a
  · have : ¬ c = b := fun q => hab (by rw [← h1, q])
    simp [h1, this, hab]
  · simp [h1]
theorem HT_self (h : pm_H) (M : Nat) : HT h M (t4 h M) = h := by
  rw [HT, t4]
  have e6 : rI (uA h (M + 5) (rI h (M + 5))) (M + 6) = rI h (M + 6) := by rw [uA_self]
  simp only [uA_self]
theorem HT_HT (h : pm_H) (M : Nat) (A B : T4) : HT (HT h M A) M B = HT h M B := by
  have e : ∀ (x : pm_H) (a b : Nat) (f g : Nat → Int32), ¬ a = b → uA (uA x a f) b g = uA (uA x b g) a f := fun x a b f g hab => uA_comm x hab f g
  rw [HT, HT, HT]
  rw [e (uA (uA (uA h (M + 5) A.1) (M + 6) A.2.1) (M + 7) A.2.2.1) (M + 8) (M + 5) _ _ (by omega), e (uA (uA h (M + 5) A.1) (M + 6) A.2.1) (M + 7) (M + 5) _ _ (by omega), e (uA h (M + 5) A.1) (M + 6) (M + 5) _ _ (by omega), uA_uA]
  rw [e (uA (uA (uA h (M + 5) B.1) (M + 6) A.2.1) (M + 7) A.2.2.1) (M + 8) (M + 6) _ _ (by omega), e (uA (uA h (M + 5) B.1) (M + 6) A.2.1) (M + 7) (M + 6) _ _ (by omega), uA_uA]
  rw [e (uA (uA (uA h (M + 5) B.1) (M + 6) B.2.1) (M + 7) A.2.2.1) (M + 8) (M + 7) _ _ (by omega), uA_uA, uA_uA]
theorem uI_HTM (h : pm_H) (M k : Nat) (A : T4) (x : Int32) : uI (HT h M A) M k x = HT (uI h M k x) M A := by
  rw [HT, HT, uA_uI_comm (by omega), uA_uI_comm (by omega), uA_uI_comm (by omega), uA_uI_comm (by omega)]
def putT (A : T4) (k : Nat) (x y w hh : Int32) : T4 := (upd A.1 k x, upd A.2.1 k y, upd A.2.2.1 k w, upd A.2.2.2 k hh)
theorem s_mput {h : pm_H} {M : Nat} (t : MK h M) {k : Nat} (hk : k < 60) (A : T4) (x y w hh : Int32) (Q : Option Value × pm_H → Prop) : pGo 158 0 [some (.ref M), some (.int (nI k)), some (.int x), some (.int y), some (.int w), some (.int hh)] [] (HT h M A) Q = Q (none, HT h M (putT A k x y w hh)) := by
  obtain ⟨k0, k1, k2, k3, k4, k5, k6, k7, k8, k9, k10, k11, k12, k13, k14, k15, k16⟩ := t
  simp (disch := omega) only [k158_0, k158_1, k158_4, k158_5, k158_6, k158_7, k158_8, k158_11, k158_12, k158_13, k158_14, k158_15, k158_18, k158_19, k158_21, k158_22, k158_23, k158_26, k158_27, k158_29, k158_30, if_true, if_false, ite_true, ite_false, not_true_eq_false, not_false_eq_true, true_or, or_true, false_or, or_false, and_self, ok_n0, ok_ni, ok_nr, ok_nl, va_rf_some, va_rf_none, true_and, and_true, List.length_nil, List.length_cons, Option.toList_some, Option.toList_none, List.cons_append, List.nil_append, rK_uA, rK_uI, rK_uJ, rK_uP, rP_uA, rP_uI, rP_uJ, rJ_uA, rJ_uI, rJ_uP, rI_uJ, rI_uP, rz_uA, rz_uI, rz_uJ, rz_uP, rs_uA, rs_uI, rs_uJ, rs_uP, Nat.reduceAdd, Nat.reduceMul, Nat.reduceSub, Nat.reduceLeDiff, Nat.reduceLT, Nat.reduceEqDiff, Nat.add_zero, Nat.zero_add, Nat.zero_le, rK_HT, rP_HT, k0, k9, k10, k11, k12, k13, k14, k15, k16, ar_okw, ar_cl, hk]
  have e5 : uI (HT h M A) (M + 5) k x = HT h M (upd A.1 k x, A.2) := by
    rw [uI_eq (HT h M A), rI_HT5]
    rw [HT, HT, uA_comm _ (show ¬ M + 8 = M + 5 by omega), uA_comm _ (show ¬ M + 7 = M + 5 by omega), uA_comm _ (show ¬ M + 6 = M + 5 by omega), uA_uA]
  have e6 : ∀ B : T4, uI (HT h M B) (M + 6) k y = HT h M (B.1, upd B.2.1 k y, B.2.2) := by
    intro B
    rw [uI_eq (HT h M B), rI_HT6]
    rw [HT, HT, uA_comm _ (show ¬ M + 8 = M + 6 by omega), uA_comm _ (show ¬ M + 7 = M + 6 by omega), uA_uA]
  have e7 : ∀ B : T4, uI (HT h M B) (M + 7) k w = HT h M (B.1, B.2.1, upd B.2.2.1 k w, B.2.2.2) := by
    intro B
    rw [uI_eq (HT h M B), rI_HT7]
    rw [HT, HT, uA_comm _ (show ¬ M + 8 = M + 7 by omega), uA_uA]
  have e8 : ∀ B : T4, uI (HT h M B) (M + 8) k hh = HT h M (B.1, B.2.1, B.2.2.1, upd B.2.2.2 k hh) := by
    intro B
    rw [uI_eq (HT h M B), rI_HT8]
    rw [HT, HT, uA_uA]
  rw [e5, e6, e7, e8, putT]
/-- a stretch of a row, written over -/
def ovr (a : Nat → Int32) (f m : Nat) (g : Nat → Int32) : Nat → Int32 := fun j => if f ≤ j ∧ j < f + m then g (j - f) else a j
theorem ovr_0 (a : Nat → Int32) (f : Nat) (g : Nat → Int32) : ovr a f 0 g = a := by
  funext j
  rw [ovr, if_neg (by omega)]
theorem ovr_s (a : Nat → Int32) (f m : Nat) (g : Nat → Int32) {x : Int32} (hx : x = g m) : upd (ovr a f m g) (f + m) x = ovr a f (m + 1) g := by
  funext j
  simp only [ovr, upd]
  by_cases hj : j = f + m
  · subst hj
    rw [if_pos rfl, if_pos (by omega), hx]
    congr 1; omega
  · rw [if_neg hj]
    by_cases hr : f ≤ j ∧ j < f + m
    · rw [if_pos hr, if_pos (by omega)]
    · rw [if_neg hr, if_neg (by omega)]
def stL (hh : Int32) (m : Nat) : Nat → Int32
  | 0 => hh
  | k + 1 => stL hh m k - stL hh m k / nI (m - k)
def stP (y hh : Int32) (m : Nat) : Nat → Int32
  | 0 => y
  | k + 1 => stP y hh m k + stL hh m k / nI (m - k)
def stT (A : T4) (f m : Nat) (x y w hh : Int32) (k : Nat) : T4 := (ovr A.1 f k (fun _ => x), ovr A.2.1 f k (stP y hh m), ovr A.2.2.1 f k (fun _ => w), ovr A.2.2.2 f k (fun i => stL hh m i / nI (m - i)))
theorem s_mstack_loop {h : pm_H} {M : Nat} (t : MK h M) {f m : Nat} (hf : f + m ≤ 60) (A : T4) (x y w hh : Int32) (Q : Option Value × pm_H → Prop) : ∀ (r k : Nat) (l10 : Option Value), k + r = m → pGo 159 11 [some (.ref M), some (.int (nI f)), some (.int (nI m)), some (.int x), some (.int y), some (.int w), some (.int hh), some (.int (stP y hh m k)), some (.int (stL hh m k)), some (.int (nI k)), l10] [] (HT h M (stT A f m x y w hh k)) Q = Q (none, HT h M (stT A f m x y w hh m)) := by
  intro r
  induction r with
  | zero =>
    intro k l10 hk
    have hk : k = m := by omega
    subst hk
    rw [k159_11]
    simp (disch := omega) only [k159_0, k159_2, k159_4, k159_6, k159_8, k159_9, k159_13, k159_14, k159_17, k159_19, k159_20, k159_22, k159_23, k159_24, k159_26, k159_27, k159_28, k159_30, k159_31, k159_32, k159_34, k159_36, k159_38, k159_41, k159_43, k159_45, k159_46, k159_48, k159_50, k159_52, k159_53, k159_55, k159_58, k159_61, if_true, if_false, ite_true, ite_false, not_true_eq_false, not_false_eq_true, true_or, or_true, false_or, or_false, and_self, ok_n0, ok_ni, ok_nr, ok_nl, va_rf_some, va_rf_none, true_and, and_true, List.length_nil, List.length_cons, Option.toList_some, Option.toList_none, List.cons_append, List.nil_append, rK_uA, rK_uI, rK_uJ, rK_uP, rP_uA, rP_uI, rP_uJ, rJ_uA, rJ_uI, rJ_uP, rI_uJ, rI_uP, rz_uA, rz_uI, rz_uJ, rz_uP, rs_uA, rs_uI, rs_uJ, rs_uP, Nat.reduceAdd, Nat.reduceMul, Nat.reduceSub, Nat.reduceLeDiff, Nat.reduceLT, Nat.reduceEqDiff, Nat.add_zero, Nat.zero_add, Nat.zero_le, ar_le, Nat.le_refl]
  | succ r ih =>
    intro k l10 hk
    have c1 : ¬ m ≤ k := by omega
    have c2 : ¬ m - k = 0 := by omega
    rw [k159_11]
    simp (disch := omega) only [k159_0, k159_2, k159_4, k159_6, k159_8, k159_9, k159_13, k159_14, k159_17, k159_19, k159_20, k159_22, k159_23, k159_24, k159_26, k159_27, k159_28, k159_30, k159_31, k159_32, k159_34, k159_36, k159_38, k159_41, k159_43, k159_45, k159_46, k159_48, k159_50, k159_52, k159_53, k159_55, k159_58, k159_61, s_mput t, if_true, if_false, ite_true, ite_false, not_true_eq_false, not_false_eq_true, true_or, or_true, false_or, or_false, and_self, ok_n0, ok_ni, ok_nr, ok_nl, va_rf_some, va_rf_none, true_and, and_true, List.length_nil, List.length_cons, Option.toList_some, Option.toList_none, List.cons_append, List.nil_append, rK_uA, rK_uI, rK_uJ, rK_uP, rP_uA, rP_uI, rP_uJ, rJ_uA, rJ_uI, rJ_uP, rI_uJ, rI_uP, rz_uA, rz_uI, rz_uJ, rz_uP, rs_uA, rs_uI, rs_uJ, rs_uP, Nat.reduceAdd, Nat.reduceMul, Nat.reduceSub, Nat.reduceLeDiff, Nat.reduceLT, Nat.reduceEqDiff, Nat.add_zero, Nat.zero_add, Nat.zero_le, rK_HT, t.1, ar_le, ar_add, ar_sub, ar_eq, c1, c2]
    have e : putT (stT A f m x y w hh k) (f + k) x (stP y hh m k) w (stL hh m k / nI (m - k)) = stT A f m x y w hh (k + 1) := by
      simp only [putT, stT]
      rw [ovr_s _ _ _ _ rfl, ovr_s _ _ _ _ rfl, ovr_s _ _ _ _ rfl, ovr_s _ _ _ _ rfl]
    rw [e]
    exact ih (k + 1) _ (by omega)
theorem s_mstack {h : pm_H} {M : Nat} (t : MK h M) {f m : Nat} (hf : f + m ≤ 60) (A : T4) (x y w hh : Int32) (Q : Option Value × pm_H → Prop) : pGo 159 0 [some (.ref M), some (.int (nI f)), some (.int (nI m)), some (.int x), some (.int y), some (.int w), some (.int hh), none, none, none, none] [] (HT h M A) Q = Q (none, HT h M (stT A f m x y w hh m)) := by
  have l := s_mstack_loop t hf A x y w hh Q m 0 none (by omega)
  have e : stT A f m x y w hh 0 = A := by simp only [stT, ovr_0]
  rw [e] at l
  rw [k159_0]
  simp only [k159_2, k159_4, k159_6, k159_8, k159_9, k159_13, k159_14, k159_17, k159_19, k159_20, k159_22, k159_23, k159_24, k159_26, k159_27, k159_28, k159_30, k159_31, k159_32, k159_34, k159_36, k159_38, k159_41, k159_43, k159_45, k159_46, k159_48, k159_50, k159_52, k159_53, k159_55, k159_58, k159_61, if_true, if_false, ite_true, ite_false, not_true_eq_false, not_false_eq_true, true_or, or_true, false_or, or_false, and_self, ok_n0, ok_ni, ok_nr, ok_nl, va_rf_some, va_rf_none, true_and, and_true, List.length_nil, List.length_cons, Option.toList_some, Option.toList_none, List.cons_append, List.nil_append, rK_uA, rK_uI, rK_uJ, rK_uP, rP_uA, rP_uI, rP_uJ, rJ_uA, rJ_uI, rJ_uP, rI_uJ, rI_uP, rz_uA, rz_uI, rz_uJ, rz_uP, rs_uA, rs_uI, rs_uJ, rs_uP, Nat.reduceAdd, Nat.reduceMul, Nat.reduceSub, Nat.reduceLeDiff, Nat.reduceLT, Nat.reduceEqDiff, Nat.add_zero, Nat.zero_add, Nat.zero_le]
  exact l
def wid (w p less : Int32) : Int32 := if (if w - less < w * p / nI 1000 then w - less else w * p / nI 1000) < nI 1 then nI 1 else (if w - less < w * p / nI 1000 then w - less else w * p / nI 1000)
theorem s_wide (w p less : Int32) (h : pm_H) (Q : Option Value × pm_H → Prop) : pGo 160 0 [some (.int w), some (.int p), some (.int less), none] [] h Q = Q (some (.int (wid w p less)), h) := by
  have e1 : w * p / nI 1000 ≤ w - less ↔ ¬ w - less < w * p / nI 1000 := by rw [Int32.not_lt]
  have e2 : ∀ z : Int32, nI 1 ≤ z ↔ ¬ z < nI 1 := fun z => by rw [Int32.not_lt]
  simp only [k160_0, k160_1, k160_2, k160_3, k160_6, k160_7, k160_8, k160_9, k160_10, k160_11, k160_12, k160_15, k160_16, k160_17, k160_18, k160_19, k160_20, k160_21, k160_24, k160_25, k160_28, k160_29, if_true, if_false, ite_true, ite_false, not_true_eq_false, not_false_eq_true, true_or, or_true, false_or, or_false, and_self, ok_n0, ok_ni, ok_nr, ok_nl, va_rf_some, va_rf_none, true_and, and_true, List.length_nil, List.length_cons, Option.toList_some, Option.toList_none, List.cons_append, List.nil_append, rK_uA, rK_uI, rK_uJ, rK_uP, rP_uA, rP_uI, rP_uJ, rJ_uA, rJ_uI, rJ_uP, rI_uJ, rI_uP, rz_uA, rz_uI, rz_uJ, rz_uP, rs_uA, rs_uI, rs_uJ, rs_uP, Nat.reduceAdd, Nat.reduceMul, Nat.reduceSub, Nat.reduceLeDiff, Nat.reduceLT, Nat.reduceEqDiff, Nat.add_zero, Nat.zero_add, Nat.zero_le, e1, e2, e1000, wid]
  by_cases c1 : w - less < w * p / nI 1000
  · simp only [c1, if_true, if_false, ite_true, ite_false, not_true_eq_false, not_false_eq_true, true_or, or_true, false_or, or_false, and_self, ok_n0, ok_ni, ok_nr, ok_nl, va_rf_some, va_rf_none, true_and, and_true, List.length_nil, List.length_cons, Option.toList_some, Option.toList_none, List.cons_append, List.nil_append, rK_uA, rK_uI, rK_uJ, rK_uP, rP_uA, rP_uI, rP_uJ, rJ_uA, rJ_uI, rJ_uP, rI_uJ, rI_uP, rz_uA, rz_uI, rz_uJ, rz_uP, rs_uA, rs_uI, rs_uJ, rs_uP, Nat.reduceAdd, Nat.reduceMul, Nat.reduceSub, Nat.reduceLeDiff, Nat.reduceLT, Nat.reduceEqDiff, Nat.add_zero, Nat.zero_add, Nat.zero_le]
    by_cases c2 : w - less < nI 1
    · simp only [c2, if_true, if_false, ite_true, ite_false, not_true_eq_false, not_false_eq_true, true_or, or_true, false_or, or_false, and_self, ok_n0, ok_ni, ok_nr, ok_nl, va_rf_some, va_rf_none, true_and, and_true, List.length_nil, List.length_cons, Option.toList_some, Option.toList_none, List.cons_append, List.nil_append, rK_uA, rK_uI, rK_uJ, rK_uP, rP_uA, rP_uI, rP_uJ, rJ_uA, rJ_uI, rJ_uP, rI_uJ, rI_uP, rz_uA, rz_uI, rz_uJ, rz_uP, rs_uA, rs_uI, rs_uJ, rs_uP, Nat.reduceAdd, Nat.reduceMul, Nat.reduceSub, Nat.reduceLeDiff, Nat.reduceLT, Nat.reduceEqDiff, Nat.add_zero, Nat.zero_add, Nat.zero_le]
    · simp only [c2, if_true, if_false, ite_true, ite_false, not_true_eq_false, not_false_eq_true, true_or, or_true, false_or, or_false, and_self, ok_n0, ok_ni, ok_nr, ok_nl, va_rf_some, va_rf_none, true_and, and_true, List.length_nil, List.length_cons, Option.toList_some, Option.toList_none, List.cons_append, List.nil_append, rK_uA, rK_uI, rK_uJ, rK_uP, rP_uA, rP_uI, rP_uJ, rJ_uA, rJ_uI, rJ_uP, rI_uJ, rI_uP, rz_uA, rz_uI, rz_uJ, rz_uP, rs_uA, rs_uI, rs_uJ, rs_uP, Nat.reduceAdd, Nat.reduceMul, Nat.reduceSub, Nat.reduceLeDiff, Nat.reduceLT, Nat.reduceEqDiff, Nat.add_zero, Nat.zero_add, Nat.zero_le]
  · simp only [c1, if_true, if_false, ite_true, ite_false, not_true_eq_false, not_false_eq_true, true_or, or_true, false_or, or_false, and_self, ok_n0, ok_ni, ok_nr, ok_nl, va_rf_some, va_rf_none, true_and, and_true, List.length_nil, List.length_cons, Option.toList_some, Option.toList_none, List.cons_append, List.nil_append, rK_uA, rK_uI, rK_uJ, rK_uP, rP_uA, rP_uI, rP_uJ, rJ_uA, rJ_uI, rJ_uP, rI_uJ, rI_uP, rz_uA, rz_uI, rz_uJ, rz_uP, rs_uA, rs_uI, rs_uJ, rs_uP, Nat.reduceAdd, Nat.reduceMul, Nat.reduceSub, Nat.reduceLeDiff, Nat.reduceLT, Nat.reduceEqDiff, Nat.add_zero, Nat.zero_add, Nat.zero_le]
    by_cases c2 : w * p / nI 1000 < nI 1
    · simp only [c2, if_true, if_false, ite_true, ite_false, not_true_eq_false, not_false_eq_true, true_or, or_true, false_or, or_false, and_self, ok_n0, ok_ni, ok_nr, ok_nl, va_rf_some, va_rf_none, true_and, and_true, List.length_nil, List.length_cons, Option.toList_some, Option.toList_none, List.cons_append, List.nil_append, rK_uA, rK_uI, rK_uJ, rK_uP, rP_uA, rP_uI, rP_uJ, rJ_uA, rJ_uI, rJ_uP, rI_uJ, rI_uP, rz_uA, rz_uI, rz_uJ, rz_uP, rs_uA, rs_uI, rs_uJ, rs_uP, Nat.reduceAdd, Nat.reduceMul, Nat.reduceSub, Nat.reduceLeDiff, Nat.reduceLT, Nat.reduceEqDiff, Nat.add_zero, Nat.zero_add, Nat.zero_le]
    · simp only [c2, if_true, if_false, ite_true, ite_false, not_true_eq_false, not_false_eq_true, true_or, or_true, false_or, or_false, and_self, ok_n0, ok_ni, ok_nr, ok_nl, va_rf_some, va_rf_none, true_and, and_true, List.length_nil, List.length_cons, Option.toList_some, Option.toList_none, List.cons_append, List.nil_append, rK_uA, rK_uI, rK_uJ, rK_uP, rP_uA, rP_uI, rP_uJ, rJ_uA, rJ_uI, rJ_uP, rI_uJ, rI_uP, rz_uA, rz_uI, rz_uJ, rz_uP, rs_uA, rs_uI, rs_uJ, rs_uP, Nat.reduceAdd, Nat.reduceMul, Nat.reduceSub, Nat.reduceLeDiff, Nat.reduceLT, Nat.reduceEqDiff, Nat.add_zero, Nat.zero_add, Nat.zero_le]
def tallT (A : T4) (N m : Nat) (x y w hh p : Int32) : T4 := if N ≤ m ∨ m = 0 then stT A 0 N x y w hh N else stT (stT A 0 m x y (wid w p (nI 1)) hh m) m (N - m) (x + wid w p (nI 1)) y (w - wid w p (nI 1)) hh (N - m)
theorem s_mtall {h : pm_H} {M : Nat} (t : MK h M) {N m : Nat} (hN : rI h M 12 = nI N) (hN2 : N ≤ 60) (hm : m ≤ 60) (A : T4) (x y w hh p : Int32) (Q : Option Value × pm_H → Prop) : pGo 161 0 [some (.ref M), some (.int x), some (.int y), some (.int w), some (.int hh), some (.int (nI m)), some (.int p), none] [] (HT h M A) Q = Q (none, HT h M (tallT A N m x y w hh p)) := by
  simp (disch := omega) only [k161_0, k161_1, k161_4, k161_6, k161_9, k161_11, k161_14, k161_15, k161_16, k161_17, k161_20, k161_21, k161_22, k161_23, k161_25, k161_28, k161_29, k161_30, k161_32, k161_33, k161_36, k161_38, k161_39, k161_40, k161_42, k161_43, k161_44, k161_46, k161_48, k161_51, k161_52, k161_54, k161_55, k161_58, k161_60, k161_61, k161_62, k161_64, k161_65, k161_66, k161_67, k161_69, k161_70, k161_72, k161_75, s_wide, s_mstack t, if_true, if_false, ite_true, ite_false, not_true_eq_false, not_false_eq_true, true_or, or_true, false_or, or_false, and_self, ok_n0, ok_ni, ok_nr, ok_nl, va_rf_some, va_rf_none, true_and, and_true, List.length_nil, List.length_cons, Option.toList_some, Option.toList_none, List.cons_append, List.nil_append, rK_uA, rK_uI, rK_uJ, rK_uP, rP_uA, rP_uI, rP_uJ, rJ_uA, rJ_uI, rJ_uP, rI_uJ, rI_uP, rz_uA, rz_uI, rz_uJ, rz_uP, rs_uA, rs_uI, rs_uJ, rs_uP, Nat.reduceAdd, Nat.reduceMul, Nat.reduceSub, Nat.reduceLeDiff, Nat.reduceLT, Nat.reduceEqDiff, Nat.add_zero, Nat.zero_add, Nat.zero_le, rK_HT, rI_HTM, t.1, hN, ar_le, ar_eq, tallT]
  by_cases c1 : N ≤ m
  · simp (disch := omega) only [c1, if_true, if_false, ite_true, ite_false, not_true_eq_false, not_false_eq_true, true_or, or_true, false_or, or_false, and_self, ok_n0, ok_ni, ok_nr, ok_nl, va_rf_some, va_rf_none, true_and, and_true, List.length_nil, List.length_cons, Option.toList_some, Option.toList_none, List.cons_append, List.nil_append, rK_uA, rK_uI, rK_uJ, rK_uP, rP_uA, rP_uI, rP_uJ, rJ_uA, rJ_uI, rJ_uP, rI_uJ, rI_uP, rz_uA, rz_uI, rz_uJ, rz_uP, rs_uA, rs_uI, rs_uJ, rs_uP, Nat.reduceAdd, Nat.reduceMul, Nat.reduceSub, Nat.reduceLeDiff, Nat.reduceLT, Nat.reduceEqDiff, Nat.add_zero, Nat.zero_add, Nat.zero_le, s_mstack t]
  · by_cases c2 : m = 0
    · simp (disch := omega) only [c1, c2, if_true, if_false, ite_true, ite_false, not_true_eq_false, not_false_eq_true, true_or, or_true, false_or, or_false, and_self, ok_n0, ok_ni, ok_nr, ok_nl, va_rf_some, va_rf_none, true_and, and_true, List.length_nil, List.length_cons, Option.toList_some, Option.toList_none, List.cons_append, List.nil_append, rK_uA, rK_uI, rK_uJ, rK_uP, rP_uA, rP_uI, rP_uJ, rJ_uA, rJ_uI, rJ_uP, rI_uJ, rI_uP, rz_uA, rz_uI, rz_uJ, rz_uP, rs_uA, rs_uI, rs_uJ, rs_uP, Nat.reduceAdd, Nat.reduceMul, Nat.reduceSub, Nat.reduceLeDiff, Nat.reduceLT, Nat.reduceEqDiff, Nat.add_zero, Nat.zero_add, Nat.zero_le, s_mstack t]
      simp (disch := omega) only [c2, if_true, if_false, ite_true, ite_false, not_true_eq_false, not_false_eq_true, true_or, or_true, false_or, or_false, and_self, ok_n0, ok_ni, ok_nr, ok_nl, va_rf_some, va_rf_none, true_and, and_true, List.length_nil, List.length_cons, Option.toList_some, Option.toList_none, List.cons_append, List.nil_append, rK_uA, rK_uI, rK_uJ, rK_uP, rP_uA, rP_uI, rP_uJ, rJ_uA, rJ_uI, rJ_uP, rI_uJ, rI_uP, rz_uA, rz_uI, rz_uJ, rz_uP, rs_uA, rs_uI, rs_uJ, rs_uP, Nat.reduceAdd, Nat.reduceMul, Nat.reduceSub, Nat.reduceLeDiff, Nat.reduceLT, Nat.reduceEqDiff, Nat.add_zero, Nat.zero_add, Nat.zero_le, s_mstack t, show ¬ N ≤ 0 by omega]
    · simp (disch := omega) only [c1, c2, if_true, if_false, ite_true, ite_false, not_true_eq_false, not_false_eq_true, true_or, or_true, false_or, or_false, and_self, ok_n0, ok_ni, ok_nr, ok_nl, va_rf_some, va_rf_none, true_and, and_true, List.length_nil, List.length_cons, Option.toList_some, Option.toList_none, List.cons_append, List.nil_append, rK_uA, rK_uI, rK_uJ, rK_uP, rP_uA, rP_uI, rP_uJ, rJ_uA, rJ_uI, rJ_uP, rI_uJ, rI_uP, rz_uA, rz_uI, rz_uJ, rz_uP, rs_uA, rs_uI, rs_uJ, rs_uP, Nat.reduceAdd, Nat.reduceMul, Nat.reduceSub, Nat.reduceLeDiff, Nat.reduceLT, Nat.reduceEqDiff, Nat.add_zero, Nat.zero_add, Nat.zero_le, s_mstack t, ar_sub, k161_0, k161_1, k161_4, k161_6, k161_9, k161_11, k161_14, k161_15, k161_16, k161_17, k161_20, k161_21, k161_22, k161_23, k161_25, k161_28, k161_29, k161_30, k161_32, k161_33, k161_36, k161_38, k161_39, k161_40, k161_42, k161_43, k161_44, k161_46, k161_48, k161_51, k161_52, k161_54, k161_55, k161_58, k161_60, k161_61, k161_62, k161_64, k161_65, k161_66, k161_67, k161_69, k161_70, k161_72, k161_75, rK_HT, rI_HTM, t.1, hN]
def midT (A : T4) (N m : Nat) (x y w hh p : Int32) : T4 := if N ≤ m + 1 ∨ m = 0 ∨ w < nI 3 then tallT A N m x y w hh p else
  stT (stT (stT A 0 m (x + (w - wid w p (nI 2)) / nI 2) y (wid w p (nI 2)) hh m) m ((N - m + 1) / 2) (x + (w - wid w p (nI 2)) / nI 2 + wid w p (nI 2)) y (w - (w - wid w p (nI 2)) / nI 2 - wid w p (nI 2)) hh ((N - m + 1) / 2)) (m + (N - m + 1) / 2) (N - m - (N - m + 1) / 2) x y ((w - wid w p (nI 2)) / nI 2) hh (N - m - (N - m + 1) / 2)
theorem s_mmiddle {h : pm_H} {M : Nat} (t : MK h M) {N m : Nat} (hN : rI h M 12 = nI N) (hN2 : N ≤ 60) (hm : m ≤ 60) (A : T4) (x y w hh p : Int32) (Q : Option Value × pm_H → Prop) : pGo 165 0 [some (.ref M), some (.int x), some (.int y), some (.int w), some (.int hh), some (.int (nI m)), some (.int p), none, none, none] [] (HT h M A) Q = Q (none, HT h M (midT A N m x y w hh p)) := by
  have e3 : nI 3 ≤ w ↔ ¬ w < nI 3 := by rw [Int32.not_lt]
  simp (disch := omega) only [k165_0, k165_1, k165_4, k165_6, k165_7, k165_8, k165_11, k165_13, k165_16, k165_17, k165_18, k165_21, k165_22, k165_23, k165_24, k165_25, k165_27, k165_29, k165_31, k165_34, k165_35, k165_36, k165_38, k165_39, k165_42, k165_44, k165_45, k165_47, k165_48, k165_49, k165_50, k165_52, k165_53, k165_56, k165_58, k165_59, k165_60, k165_61, k165_62, k165_63, k165_65, k165_66, k165_67, k165_69, k165_70, k165_72, k165_73, k165_74, k165_76, k165_78, k165_81, k165_82, k165_84, k165_86, k165_87, k165_89, k165_90, k165_92, k165_93, k165_94, k165_95, k165_97, k165_98, k165_100, k165_101, k165_103, k165_106, k165_107, k165_109, k165_111, k165_112, k165_113, k165_116, k165_118, k165_119, k165_121, k165_122, k165_123, k165_124, k165_126, k165_128, k165_131, s_wide, s_mtall t hN hN2 hm, if_true, if_false, ite_true, ite_false, not_true_eq_false, not_false_eq_true, true_or, or_true, false_or, or_false, and_self, ok_n0, ok_ni, ok_nr, ok_nl, va_rf_some, va_rf_none, true_and, and_true, List.length_nil, List.length_cons, Option.toList_some, Option.toList_none, List.cons_append, List.nil_append, rK_uA, rK_uI, rK_uJ, rK_uP, rP_uA, rP_uI, rP_uJ, rJ_uA, rJ_uI, rJ_uP, rI_uJ, rI_uP, rz_uA, rz_uI, rz_uJ, rz_uP, rs_uA, rs_uI, rs_uJ, rs_uP, Nat.reduceAdd, Nat.reduceMul, Nat.reduceSub, Nat.reduceLeDiff, Nat.reduceLT, Nat.reduceEqDiff, Nat.add_zero, Nat.zero_add, Nat.zero_le, rK_HT, rI_HTM, t.1, hN, ar_le, ar_eq, ar_add, midT, e3]
  by_cases c1 : N ≤ m + 1
  · simp (disch := omega) only [c1, if_true, if_false, ite_true, ite_false, not_true_eq_false, not_false_eq_true, true_or, or_true, false_or, or_false, and_self, ok_n0, ok_ni, ok_nr, ok_nl, va_rf_some, va_rf_none, true_and, and_true, List.length_nil, List.length_cons, Option.toList_some, Option.toList_none, List.cons_append, List.nil_append, rK_uA, rK_uI, rK_uJ, rK_uP, rP_uA, rP_uI, rP_uJ, rJ_uA, rJ_uI, rJ_uP, rI_uJ, rI_uP, rz_uA, rz_uI, rz_uJ, rz_uP, rs_uA, rs_uI, rs_uJ, rs_uP, Nat.reduceAdd, Nat.reduceMul, Nat.reduceSub, Nat.reduceLeDiff, Nat.reduceLT, Nat.reduceEqDiff, Nat.add_zero, Nat.zero_add, Nat.zero_le]
  · by_cases c2 : m = 0
    · simp (disch := omega) only [c1, if_true, if_false, ite_true, ite_false, not_true_eq_false, not_false_eq_true, true_or, or_true, false_or, or_false, and_self, ok_n0, ok_ni, ok_nr, ok_nl, va_rf_some, va_rf_none, true_and, and_true, List.length_nil, List.length_cons, Option.toList_some, Option.toList_none, List.cons_append, List.nil_append, rK_uA, rK_uI, rK_uJ, rK_uP, rP_uA, rP_uI, rP_uJ, rJ_uA, rJ_uI, rJ_uP, rI_uJ, rI_uP, rz_uA, rz_uI, rz_uJ, rz_uP, rs_uA, rs_uI, rs_uJ, rs_uP, Nat.reduceAdd, Nat.reduceMul, Nat.reduceSub, Nat.reduceLeDiff, Nat.reduceLT, Nat.reduceEqDiff, Nat.add_zero, Nat.zero_add, Nat.zero_le]
      simp (disch := omega) only [c2, if_true, if_false, ite_true, ite_false, not_true_eq_false, not_false_eq_true, true_or, or_true, false_or, or_false, and_self, ok_n0, ok_ni, ok_nr, ok_nl, va_rf_some, va_rf_none, true_and, and_true, List.length_nil, List.length_cons, Option.toList_some, Option.toList_none, List.cons_append, List.nil_append, rK_uA, rK_uI, rK_uJ, rK_uP, rP_uA, rP_uI, rP_uJ, rJ_uA, rJ_uI, rJ_uP, rI_uJ, rI_uP, rz_uA, rz_uI, rz_uJ, rz_uP, rs_uA, rs_uI, rs_uJ, rs_uP, Nat.reduceAdd, Nat.reduceMul, Nat.reduceSub, Nat.reduceLeDiff, Nat.reduceLT, Nat.reduceEqDiff, Nat.add_zero, Nat.zero_add, Nat.zero_le]
    · by_cases c3 : w < nI 3
      · simp (disch := omega) only [c1, c2, c3, if_true, if_false, ite_true, ite_false, not_true_eq_false, not_false_eq_true, true_or, or_true, false_or, or_false, and_self, ok_n0, ok_ni, ok_nr, ok_nl, va_rf_some, va_rf_none, true_and, and_true, List.length_nil, List.length_cons, Option.toList_some, Option.toList_none, List.cons_append, List.nil_append, rK_uA, rK_uI, rK_uJ, rK_uP, rP_uA, rP_uI, rP_uJ, rJ_uA, rJ_uI, rJ_uP, rI_uJ, rI_uP, rz_uA, rz_uI, rz_uJ, rz_uP, rs_uA, rs_uI, rs_uJ, rs_uP, Nat.reduceAdd, Nat.reduceMul, Nat.reduceSub, Nat.reduceLeDiff, Nat.reduceLT, Nat.reduceEqDiff, Nat.add_zero, Nat.zero_add, Nat.zero_le]
      · simp (disch := omega) only [c1, c2, c3, if_true, if_false, ite_true, ite_false, not_true_eq_false, not_false_eq_true, true_or, or_true, false_or, or_false, and_self, ok_n0, ok_ni, ok_nr, ok_nl, va_rf_some, va_rf_none, true_and, and_true, List.length_nil, List.length_cons, Option.toList_some, Option.toList_none, List.cons_append, List.nil_append, rK_uA, rK_uI, rK_uJ, rK_uP, rP_uA, rP_uI, rP_uJ, rJ_uA, rJ_uI, rJ_uP, rI_uJ, rI_uP, rz_uA, rz_uI, rz_uJ, rz_uP, rs_uA, rs_uI, rs_uJ, rs_uP, Nat.reduceAdd, Nat.reduceMul, Nat.reduceSub, Nat.reduceLeDiff, Nat.reduceLT, Nat.reduceEqDiff, Nat.add_zero, Nat.zero_add, Nat.zero_le, s_mstack t, ar_sub, ar_add, ar_div, e2z, k165_0, k165_1, k165_4, k165_6, k165_7, k165_8, k165_11, k165_13, k165_16, k165_17, k165_18, k165_21, k165_22, k165_23, k165_24, k165_25, k165_27, k165_29, k165_31, k165_34, k165_35, k165_36, k165_38, k165_39, k165_42, k165_44, k165_45, k165_47, k165_48, k165_49, k165_50, k165_52, k165_53, k165_56, k165_58, k165_59, k165_60, k165_61, k165_62, k165_63, k165_65, k165_66, k165_67, k165_69, k165_70, k165_72, k165_73, k165_74, k165_76, k165_78, k165_81, k165_82, k165_84, k165_86, k165_87, k165_89, k165_90, k165_92, k165_93, k165_94, k165_95, k165_97, k165_98, k165_100, k165_101, k165_103, k165_106, k165_107, k165_109, k165_111, k165_112, k165_113, k165_116, k165_118, k165_119, k165_121, k165_122, k165_123, k165_124, k165_126, k165_128, k165_131, rK_HT, rI_HTM, t.1, hN]
