/-! THE MODEL: grid and halving -/
theorem s_mgrid_a {h : pm_H} {M N : Nat} (t : MK h M) (hN : rI h M 12 = nI N) (hN2 : N ≤ 60) (x y w hh : Int32) (Q : Option Value × pm_H → Prop) : ∀ (f co : Nat), 60 ≤ co + f → co ≤ 60 → pGo 162 3 [some (.ref M), some (.int x), some (.int y), some (.int w), some (.int hh), some (.int (nI co)), none, none, none, none, none] [] h Q = pGo 162 21 [some (.ref M), some (.int x), some (.int y), some (.int w), some (.int hh), some (.int (nI (gcol N f co))), none, none, none, none, none] [] h Q := by
  intro f
  induction f with
  | zero =>
    intro co h1 h2
    have hco : co = 60 := by omega
    subst hco
    have c1 : N ≤ 60 * 60 := by omega
    rw [k162_3]
    simp (disch := omega) only [k162_5, k162_7, k162_8, k162_9, k162_12, if_true, if_false, ite_true, ite_false, not_true_eq_false, not_false_eq_true, true_or, or_true, false_or, or_false, and_self, ok_n0, ok_ni, ok_nr, ok_nl, va_rf_some, va_rf_none, true_and, and_true, List.length_nil, List.length_cons, Option.toList_some, Option.toList_none, List.cons_append, List.nil_append, rK_uA, rK_uI, rK_uJ, rK_uP, rP_uA, rP_uI, rP_uJ, rJ_uA, rJ_uI, rJ_uP, rI_uJ, rI_uP, rz_uA, rz_uI, rz_uJ, rz_uP, rs_uA, rs_uI, rs_uJ, rs_uP, Nat.reduceAdd, Nat.reduceMul, Nat.reduceSub, Nat.reduceLeDiff, Nat.reduceLT, Nat.reduceEqDiff, Nat.add_zero, Nat.zero_add, Nat.zero_le, t.1, hN, ar_mul, ar_le, c1, gcol]
  | succ f ih =>
    intro co h1 h2
    rw [k162_3]
    have hcc : co * co ≤ 3600 := Nat.mul_le_mul h2 h2
    by_cases c2 : N ≤ co * co
    · simp (disch := omega) only [k162_5, k162_7, k162_8, k162_9, k162_12, if_true, if_false, ite_true, ite_false, not_true_eq_false, not_false_eq_true, true_or, or_true, false_or, or_false, and_self, ok_n0, ok_ni, ok_nr, ok_nl, va_rf_some, va_rf_none, true_and, and_true, List.length_nil, List.length_cons, Option.toList_some, Option.toList_none, List.cons_append, List.nil_append, rK_uA, rK_uI, rK_uJ, rK_uP, rP_uA, rP_uI, rP_uJ, rJ_uA, rJ_uI, rJ_uP, rI_uJ, rI_uP, rz_uA, rz_uI, rz_uJ, rz_uP, rs_uA, rs_uI, rs_uJ, rs_uP, Nat.reduceAdd, Nat.reduceMul, Nat.reduceSub, Nat.reduceLeDiff, Nat.reduceLT, Nat.reduceEqDiff, Nat.add_zero, Nat.zero_add, Nat.zero_le, t.1, hN, ar_mul, ar_le, c2, gcol, show ¬ co * co < N by omega, and_false]
    · have c3 : co < 60 := by
        rcases Nat.lt_or_ge co 60 with q | q
        · exact q
        · have : co = 60 := by omega
          subst this
          omega
      simp (disch := omega) only [k162_5, k162_7, k162_8, k162_9, k162_12, k162_15, k162_18, if_true, if_false, ite_true, ite_false, not_true_eq_false, not_false_eq_true, true_or, or_true, false_or, or_false, and_self, ok_n0, ok_ni, ok_nr, ok_nl, va_rf_some, va_rf_none, true_and, and_true, List.length_nil, List.length_cons, Option.toList_some, Option.toList_none, List.cons_append, List.nil_append, rK_uA, rK_uI, rK_uJ, rK_uP, rP_uA, rP_uI, rP_uJ, rJ_uA, rJ_uI, rJ_uP, rI_uJ, rI_uP, rz_uA, rz_uI, rz_uJ, rz_uP, rs_uA, rs_uI, rs_uJ, rs_uP, Nat.reduceAdd, Nat.reduceMul, Nat.reduceSub, Nat.reduceLeDiff, Nat.reduceLT, Nat.reduceEqDiff, Nat.add_zero, Nat.zero_add, Nat.zero_le, t.1, hN, ar_mul, ar_le, ar_add, c2, c3, gcol, show co * co < N by omega]
      exact ih (co + 1) (by omega) (by omega)
def grT (A : T4) (N c : Nat) (x y w hh : Int32) : Nat → T4
  | 0 => A
  | i + 1 => stT (grT A N c x y w hh i) (i * N / c) ((i + 1) * N / c - i * N / c) (stP x w c i) y (stL w c i / nI (c - i)) hh ((i + 1) * N / c - i * N / c)
theorem s_mgrid_b {h : pm_H} {M N c : Nat} (t : MK h M) (hN : rI h M 12 = nI N) (hN2 : N ≤ 60) (hc1 : 1 ≤ c) (hc2 : c ≤ 60) (A : T4) (x y w hh : Int32) (Q : Option Value × pm_H → Prop) : ∀ (r i : Nat) (l9 l10 : Option Value), i + r = c → ok_n l9 = True → pGo 162 30 [some (.ref M), some (.int x), some (.int y), some (.int w), some (.int hh), some (.int (nI c)), some (.int (stP x w c i)), some (.int (stL w c i)), some (.int (nI i)), l9, l10] [] (HT h M (grT A N c x y w hh i)) Q = Q (none, HT h M (grT A N c x y w hh c)) := by
  intro r
  induction r with
  | zero =>
    intro i l9 l10 hi h9
    have hi : i = c := by omega
    subst hi
    rw [k162_30]
    simp (disch := omega) only [k162_0, k162_1, k162_5, k162_7, k162_8, k162_9, k162_12, k162_15, k162_18, k162_21, k162_22, k162_24, k162_25, k162_27, k162_28, k162_32, k162_34, k162_37, k162_39, k162_41, k162_43, k162_44, k162_45, k162_47, k162_49, k162_50, k162_53, k162_54, k162_56, k162_57, k162_59, k162_60, k162_62, k162_64, k162_65, k162_66, k162_67, k162_70, k162_71, k162_73, k162_74, k162_76, k162_77, k162_79, k162_80, k162_82, k162_84, k162_87, k162_89, k162_91, k162_92, k162_94, k162_96, k162_98, k162_99, k162_101, k162_104, k162_107, if_true, if_false, ite_true, ite_false, not_true_eq_false, not_false_eq_true, true_or, or_true, false_or, or_false, and_self, ok_n0, ok_ni, ok_nr, ok_nl, va_rf_some, va_rf_none, true_and, and_true, List.length_nil, List.length_cons, Option.toList_some, Option.toList_none, List.cons_append, List.nil_append, rK_uA, rK_uI, rK_uJ, rK_uP, rP_uA, rP_uI, rP_uJ, rJ_uA, rJ_uI, rJ_uP, rI_uJ, rI_uP, rz_uA, rz_uI, rz_uJ, rz_uP, rs_uA, rs_uI, rs_uJ, rs_uP, Nat.reduceAdd, Nat.reduceMul, Nat.reduceSub, Nat.reduceLeDiff, Nat.reduceLT, Nat.reduceEqDiff, Nat.add_zero, Nat.zero_add, Nat.zero_le, ar_le, Nat.le_refl]
  | succ r ih =>
    intro i l9 l10 hi h9
    have c1 : ¬ c ≤ i := by omega
    have c2 : ¬ c - i = 0 := by omega
    have c3 : ¬ c = 0 := by omega
    have b1 : i * N ≤ 3600 := Nat.mul_le_mul (show i ≤ 60 by omega) hN2
    have b2 : (i + 1) * N ≤ 3600 := Nat.mul_le_mul (show i + 1 ≤ 60 by omega) hN2
    have b3 : (i + 1) * N / c ≤ N := by
      apply Nat.div_le_of_le_mul
      exact Nat.mul_le_mul_right N (by omega)
    have b5 : i * N / c ≤ (i + 1) * N / c := Nat.div_le_div_right (Nat.mul_le_mul_right N (by omega))
    rw [k162_30]
    simp (disch := omega) only [k162_0, k162_1, k162_5, k162_7, k162_8, k162_9, k162_12, k162_15, k162_18, k162_21, k162_22, k162_24, k162_25, k162_27, k162_28, k162_32, k162_34, k162_37, k162_39, k162_41, k162_43, k162_44, k162_45, k162_47, k162_49, k162_50, k162_53, k162_54, k162_56, k162_57, k162_59, k162_60, k162_62, k162_64, k162_65, k162_66, k162_67, k162_70, k162_71, k162_73, k162_74, k162_76, k162_77, k162_79, k162_80, k162_82, k162_84, k162_87, k162_89, k162_91, k162_92, k162_94, k162_96, k162_98, k162_99, k162_101, k162_104, k162_107, s_mstack t, if_true, if_false, ite_true, ite_false, not_true_eq_false, not_false_eq_true, true_or, or_true, false_or, or_false, and_self, ok_n0, ok_ni, ok_nr, ok_nl, va_rf_some, va_rf_none, true_and, and_true, List.length_nil, List.length_cons, Option.toList_some, Option.toList_none, List.cons_append, List.nil_append, rK_uA, rK_uI, rK_uJ, rK_uP, rP_uA, rP_uI, rP_uJ, rJ_uA, rJ_uI, rJ_uP, rI_uJ, rI_uP, rz_uA, rz_uI, rz_uJ, rz_uP, rs_uA, rs_uI, rs_uJ, rs_uP, Nat.reduceAdd, Nat.reduceMul, Nat.reduceSub, Nat.reduceLeDiff, Nat.reduceLT, Nat.reduceEqDiff, Nat.add_zero, Nat.zero_add, Nat.zero_le, rK_HT, rI_HTM, t.1, hN, h9, ar_le, ar_add, ar_sub, ar_mul, ar_div, ar_eq, c1, c2, c3]
    exact ih (i + 1) _ _ (by omega) (ok_ni _)
theorem s_mgrid {h : pm_H} {M N : Nat} (t : MK h M) (hN : rI h M 12 = nI N) (hN2 : N ≤ 60) (A : T4) (x y w hh : Int32) (Q : Option Value × pm_H → Prop) : pGo 162 0 [some (.ref M), some (.int x), some (.int y), some (.int w), some (.int hh), none, none, none, none, none, none] [] (HT h M A) Q = Q (none, HT h M (grT A N (gcol N 60 1) x y w hh (gcol N 60 1))) := by
  obtain ⟨p1, p2⟩ := gcol_pos N 60 1 (by decide) (by decide)
  have l := s_mgrid_b t hN hN2 p1 p2 A x y w hh Q (gcol N 60 1) 0 none none (by omega) ok_n0
  rw [k162_0]
  simp only [k162_1, if_true, if_false, ite_true, ite_false, not_true_eq_false, not_false_eq_true, true_or, or_true, false_or, or_false, and_self, ok_n0, ok_ni, ok_nr, ok_nl, va_rf_some, va_rf_none, true_and, and_true, List.length_nil, List.length_cons, Option.toList_some, Option.toList_none, List.cons_append, List.nil_append, rK_uA, rK_uI, rK_uJ, rK_uP, rP_uA, rP_uI, rP_uJ, rJ_uA, rJ_uI, rJ_uP, rI_uJ, rI_uP, rz_uA, rz_uI, rz_uJ, rz_uP, rs_uA, rs_uI, rs_uJ, rs_uP, Nat.reduceAdd, Nat.reduceMul, Nat.reduceSub, Nat.reduceLeDiff, Nat.reduceLT, Nat.reduceEqDiff, Nat.add_zero, Nat.zero_add, Nat.zero_le]
  rw [s_mgrid_a (h := HT h M A) t (by rw [rI_HTM]; exact hN) hN2 x y w hh Q 60 1 (by omega) (by omega), k162_21]
  simp only [k162_0, k162_1, k162_5, k162_7, k162_8, k162_9, k162_12, k162_15, k162_18, k162_22, k162_24, k162_25, k162_27, k162_28, k162_32, k162_34, k162_37, k162_39, k162_41, k162_43, k162_44, k162_45, k162_47, k162_49, k162_50, k162_53, k162_54, k162_56, k162_57, k162_59, k162_60, k162_62, k162_64, k162_65, k162_66, k162_67, k162_70, k162_71, k162_73, k162_74, k162_76, k162_77, k162_79, k162_80, k162_82, k162_84, k162_87, k162_89, k162_91, k162_92, k162_94, k162_96, k162_98, k162_99, k162_101, k162_104, k162_107, if_true, if_false, ite_true, ite_false, not_true_eq_false, not_false_eq_true, true_or, or_true, false_or, or_false, and_self, ok_n0, ok_ni, ok_nr, ok_nl, va_rf_some, va_rf_none, true_and, and_true, List.length_nil, List.length_cons, Option.toList_some, Option.toList_none, List.cons_append, List.nil_append, rK_uA, rK_uI, rK_uJ, rK_uP, rP_uA, rP_uI, rP_uJ, rJ_uA, rJ_uI, rJ_uP, rI_uJ, rI_uP, rz_uA, rz_uI, rz_uJ, rz_uP, rs_uA, rs_uI, rs_uJ, rs_uP, Nat.reduceAdd, Nat.reduceMul, Nat.reduceSub, Nat.reduceLeDiff, Nat.reduceLT, Nat.reduceEqDiff, Nat.add_zero, Nat.zero_add, Nat.zero_le]
  exact l
/-- the stack of parts that are still to be halved -/
def MK2 (h : pm_H) (M : Nat) : Prop := rP h M 14 = some (M + 9) ∧ rK h (M + 9) = (2, 64) ∧ rP h M 15 = some (M + 10) ∧ rK h (M + 10) = (2, 64) ∧ rP h M 16 = some (M + 11) ∧ rK h (M + 11) = (2, 64) ∧ rP h M 17 = some (M + 12) ∧ rK h (M + 12) = (2, 64) ∧ rP h M 18 = some (M + 13) ∧ rK h (M + 13) = (2, 64) ∧ rP h M 19 = some (M + 14) ∧ rK h (M + 14) = (2, 64) ∧ rP h M 21 = some (M + 15) ∧ rK h (M + 15) = (2, 4)
abbrev S6 : Type := (Nat → Int32) × (Nat → Int32) × (Nat → Int32) × (Nat → Int32) × (Nat → Int32) × (Nat → Int32)
theorem rI_uIn {h : pm_H} {a k : Nat} {v : Int32} {b : Nat} (hb : ¬ b = a) : rI (uI h a k v) b = rI h b := by rw [rI_uI, if_neg hb]
theorem rI_uIs {h : pm_H} {a k : Nat} {v : Int32} : rI (uI h a k v) a = upd (rI h a) k v := by rw [rI_uI, if_pos rfl]
/-- the heap H is h0 but for the model's scratch: A in the four rows, B in the six, P parts -/
def BS (H : pm_H) (M : Nat) (h0 : pm_H) (A : T4) (B : S6) (P : Nat) : Prop :=
  rK H = rK h0 ∧ rP H = rP h0 ∧ rJ H = rJ h0 ∧ rz H = rz h0 ∧ rs H = rs h0 ∧ rI H (M + 5) = A.1 ∧ rI H (M + 6) = A.2.1 ∧ rI H (M + 7) = A.2.2.1 ∧ rI H (M + 8) = A.2.2.2 ∧ rI H (M + 9) = B.1 ∧ rI H (M + 10) = B.2.1 ∧ rI H (M + 11) = B.2.2.1 ∧ rI H (M + 12) = B.2.2.2.1 ∧ rI H (M + 13) = B.2.2.2.2.1 ∧ rI H (M + 14) = B.2.2.2.2.2 ∧ rI H M 20 = nI P ∧ (∀ b, b < M ∨ (M < b ∧ b < M + 5) ∨ M + 14 < b → rI H b = rI h0 b) ∧ ∀ k, k ≠ 20 → rI H M k = rI h0 M k
def pshB (B : S6) (P : Nat) (f k x y w hh : Int32) : S6 := (upd B.1 P f, upd B.2.1 P k, upd B.2.2.1 P x, upd B.2.2.2.1 P y, upd B.2.2.2.2.1 P w, upd B.2.2.2.2.2 P hh)
theorem s_part {H h0 : pm_H} {M P : Nat} {A : T4} {B : S6} (t : MK h0 M) (t2 : MK2 h0 M) (hB : BS H M h0 A B P) (hP : P < 64) (f k x y w hh : Int32) (Q : Option Value × pm_H → Prop) (hQ : ∀ H', BS H' M h0 A (pshB B P f k x y w hh) (P + 1) → Q (none, H')) : pGo 163 0 [some (.ref M), some (.int f), some (.int k), some (.int x), some (.int y), some (.int w), some (.int hh)] [] H Q := by
  obtain ⟨a1, a2, a3, a4, a5, b5, b6, b7, b8, b9, b10, b11, b12, b13, b14, b15, b16, b17⟩ := hB
  obtain ⟨k0, -⟩ := t
  obtain ⟨m1, m2, m3, m4, m5, m6, m7, m8, m9, m10, m11, m12, -⟩ := t2
  have d9 : ¬ M = M + 9 := by omega
  have d10 : ¬ M = M + 10 := by omega
  have d11 : ¬ M = M + 11 := by omega
  have d12 : ¬ M = M + 12 := by omega
  have d13 : ¬ M = M + 13 := by omega
  have d14 : ¬ M = M + 14 := by omega
  simp (disch := omega) only [k163_0, k163_1, k163_4, k163_5, k163_8, k163_9, k163_10, k163_11, k163_14, k163_15, k163_18, k163_19, k163_20, k163_21, k163_24, k163_25, k163_28, k163_29, k163_30, k163_31, k163_34, k163_35, k163_38, k163_40, k163_41, k163_42, k163_45, k163_46, k163_49, k163_51, k163_52, k163_53, k163_56, k163_57, k163_60, k163_62, k163_63, k163_64, k163_64i, k163_65, k163_68, k163_69, k163_70, k163_73, if_true, if_false, ite_true, ite_false, not_true_eq_false, not_false_eq_true, true_or, or_true, false_or, or_false, and_self, ok_n0, ok_ni, ok_nr, ok_nl, va_rf_some, va_rf_none, true_and, and_true, List.length_nil, List.length_cons, Option.toList_some, Option.toList_none, List.cons_append, List.nil_append, rK_uA, rK_uI, rK_uJ, rK_uP, rP_uA, rP_uI, rP_uJ, rJ_uA, rJ_uI, rJ_uP, rI_uJ, rI_uP, rz_uA, rz_uI, rz_uJ, rz_uP, rs_uA, rs_uI, rs_uJ, rs_uP, Nat.reduceAdd, Nat.reduceMul, Nat.reduceSub, Nat.reduceLeDiff, Nat.reduceLT, Nat.reduceEqDiff, Nat.add_zero, Nat.zero_add, Nat.zero_le, a1, a2, k0, m1, m2, m3, m4, m5, m6, m7, m8, m9, m10, m11, m12, rI_uIn, b15, ar_okw, ar_cl, ar_add, hP]
  refine hQ _ ⟨a1, a2, a3, a4, a5, ?_, ?_, ?_, ?_, ?_, ?_, ?_, ?_, ?_, ?_, ?_, ?_, ?_⟩
  · simp (disch := omega) only [rI_uIn]; exact b5
  · simp (disch := omega) only [rI_uIn]; exact b6
  · simp (disch := omega) only [rI_uIn]; exact b7
  · simp (disch := omega) only [rI_uIn]; exact b8
  · simp (disch := omega) only [rI_uIn, rI_uIs, pshB, b9]
  · simp (disch := omega) only [rI_uIn, rI_uIs, pshB, b10]
  · simp (disch := omega) only [rI_uIn, rI_uIs, pshB, b11]
  · simp (disch := omega) only [rI_uIn, rI_uIs, pshB, b12]
  · simp (disch := omega) only [rI_uIn, rI_uIs, pshB, b13]
  · simp (disch := omega) only [rI_uIn, rI_uIs, pshB, b14]
  · simp (disch := omega) only [rI_uIs, pk_us]
  · intro b hb
    simp (disch := omega) only [rI_uIn]
    exact b16 b hb
  · intro j hj
    simp (disch := omega) only [rI_uIs, pk_un hj, rI_uIn]
    exact b17 j hj
theorem s_bput {H h0 : pm_H} {M P k : Nat} {A : T4} {B : S6} (t : MK h0 M) (hB : BS H M h0 A B P) (hk : k < 60) (x y w hh : Int32) (Q : Option Value × pm_H → Prop) (hQ : ∀ H', BS H' M h0 (putT A k x y w hh) B P → Q (none, H')) : pGo 158 0 [some (.ref M), some (.int (nI k)), some (.int x), some (.int y), some (.int w), some (.int hh)] [] H Q := by
  obtain ⟨a1, a2, a3, a4, a5, b5, b6, b7, b8, b9, b10, b11, b12, b13, b14, b15, b16, b17⟩ := hB
  have tH : MK H M := by
    unfold MK at t ⊢
    rw [a1, a2]; exact t
  have e : t4 H M = A := by rw [t4, b5, b6, b7, b8]
  have l := s_mput tH hk (t4 H M) x y w hh Q
  rw [HT_self] at l
  rw [l, e]
  refine hQ _ ⟨a1, a2, a3, a4, a5, rI_HT5 _ _ _, rI_HT6 _ _ _, rI_HT7 _ _ _, rI_HT8 _ _ _, ?_, ?_, ?_, ?_, ?_, ?_, ?_, ?_, ?_⟩
  · rw [rI_HTo _ _ _ (by omega)]; exact b9
  · rw [rI_HTo _ _ _ (by omega)]; exact b10
  · rw [rI_HTo _ _ _ (by omega)]; exact b11
  · rw [rI_HTo _ _ _ (by omega)]; exact b12
  · rw [rI_HTo _ _ _ (by omega)]; exact b13
  · rw [rI_HTo _ _ _ (by omega)]; exact b14
  · rw [rI_HTM]; exact b15
  · intro b hb
    rw [rI_HTo _ _ _ (by omega)]; exact b16 b hb
  · intro j hj
    rw [rI_HTM]; exact b17 j hj
/-- tile t of the four rows is the box g -/
def isT (A : T4) (t : Nat) (g : Nat → Int32) : Prop := A.1 t = g 0 ∧ A.2.1 t = g 1 ∧ A.2.2.1 t = g 2 ∧ A.2.2.2 t = g 3
/-- part j of the stack: from f on, k tiles, in the box g; it will be as R says -/
def isP (B : S6) (R : Nat → Nat → Int32) (j f k : Nat) : Prop := ∃ (g : Nat → Int32) (fu : Nat), B.1 j = nI f ∧ B.2.1 j = nI k ∧ B.2.2.1 j = g 0 ∧ B.2.2.2.1 j = g 1 ∧ B.2.2.2.2.1 j = g 2 ∧ B.2.2.2.2.2 j = g 3 ∧ 1 ≤ k ∧ k ≤ fu + 1 ∧ ∀ t, t < k → eq4 (balB fu g t k) (R (f + t))
/-- P parts on the stack, one behind another from 0 on up to tile e; all tiles from e on are done -/
def isS (B : S6) (R : Nat → Nat → Int32) : Nat → Nat → Prop
  | 0, e => e = 0
  | P + 1, e => ∃ f k, f + k = e ∧ isP B R P f k ∧ isS B R P f
theorem isP.cg {B B' : S6} {R : Nat → Nat → Int32} {j f k : Nat} (hp : isP B R j f k) (h1 : B'.1 j = B.1 j) (h2 : B'.2.1 j = B.2.1 j) (h3 : B'.2.2.1 j = B.2.2.1 j) (h4 : B'.2.2.2.1 j = B.2.2.2.1 j) (h5 : B'.2.2.2.2.1 j = B.2.2.2.2.1 j) (h6 : B'.2.2.2.2.2 j = B.2.2.2.2.2 j) : isP B' R j f k := by
  obtain ⟨g, fu, q⟩ := hp
  refine ⟨g, fu, ?_⟩
  rw [h1, h2, h3, h4, h5, h6]
  exact q
theorem isS.psh {B : S6} {R : Nat → Nat → Int32} {P' : Nat} {f k x y w hh : Int32} : ∀ {P e : Nat}, isS B R P e → P ≤ P' → isS (pshB B P' f k x y w hh) R P e := by
  intro P
  induction P with
  | zero => intro e h _; exact h
  | succ P ih =>
    intro e h hP
    obtain ⟨a, b, h1, h2, h3⟩ := h
    have hne : ¬ P = P' := by omega
    refine ⟨a, b, h1, h2.cg ?_ ?_ ?_ ?_ ?_ ?_, ih h3 (by omega)⟩ <;> simp [pshB, upd, hne]
theorem isS.len {B : S6} {R : Nat → Nat → Int32} : ∀ {P e : Nat}, isS B R P e → P ≤ e := by
  intro P
  induction P with
  | zero => intro e h; omega
  | succ P ih =>
    intro e h
    obtain ⟨a, b, h1, ⟨g, fu, -, -, -, -, -, -, h2, -⟩, h3⟩ := h
    have := ih h3
    omega
theorem s_balance_loop {h0 : pm_H} {M N : Nat} {R : Nat → Nat → Int32} (t : MK h0 M) (t2 : MK2 h0 M) (hN : N ≤ 60) (x y w hh : Int32) (Q : Option Value × pm_H → Prop) (hQ : ∀ H A B, BS H M h0 A B 0 → (∀ t, t < N → isT A t (R t)) → Q (none, H)) : ∀ (μ : Nat) (H : pm_H) (A : T4) (B : S6) (P e : Nat) (l5 l6 l7 l8 l9 l10 l11 l12 : Option Value), ok_n l5 = True → ok_n l6 = True → ok_n l7 = True → ok_n l8 = True → ok_n l9 = True → ok_n l10 = True → ok_n l11 = True → 2 * e - P < μ → e ≤ N → BS H M h0 A B P → isS B R P e → (∀ t, e ≤ t → t < N → isT A t (R t)) → pGo 164 26 [some (.ref M), some (.int x), some (.int y), some (.int w), some (.int hh), l5, l6, l7, l8, l9, l10, l11, l12] [] H Q := by
  obtain ⟨k0, -⟩ := id t
  obtain ⟨m1, m2, m3, m4, m5, m6, m7, m8, m9, m10, m11, m12, -⟩ := id t2
  intro μ
  induction μ with
  | zero => intro H A B P e l5 l6 l7 l8 l9 l10 l11 l12 o5 o6 o7 o8 o9 o10 o11 hμ; omega
  | succ μ ih =>
    intro H A B P e l5 l6 l7 l8 l9 l10 l11 l12 o5 o6 o7 o8 o9 o10 o11 hμ heN hB hS hT
    obtain ⟨a1, a2, a3, a4, a5, b5, b6, b7, b8, b9, b10, b11, b12, b13, b14, b15, b16, b17⟩ := id hB
    have hPe := hS.len
    rw [k164_26]
    cases P with
    | zero =>
      have he : e = 0 := hS
      subst he
      simp (disch := omega) only [k164_0, k164_1, k164_2, k164_5, k164_6, k164_9, k164_12, k164_13, k164_14, k164_15, k164_18, k164_19, k164_20, k164_21, k164_23, k164_27, k164_30, k164_33, k164_34, k164_34i, k164_35, k164_38, k164_39, k164_40, k164_43, k164_44, k164_47, k164_48, k164_51, k164_52, k164_54, k164_55, k164_58, k164_59, k164_62, k164_63, k164_65, k164_66, k164_69, k164_70, k164_73, k164_74, k164_76, k164_77, k164_80, k164_81, k164_84, k164_85, k164_87, k164_88, k164_91, k164_92, k164_95, k164_96, k164_98, k164_99, k164_102, k164_103, k164_106, k164_107, k164_109, k164_111, k164_112, k164_113, k164_114, k164_115, k164_117, k164_119, k164_120, k164_123, k164_124, k164_126, k164_128, k164_130, k164_132, k164_134, k164_137, k164_140, k164_142, k164_144, k164_147, k164_149, k164_151, k164_152, k164_154, k164_155, k164_157, k164_158, k164_160, k164_162, k164_164, k164_166, k164_168, k164_170, k164_173, k164_174, k164_176, k164_178, k164_179, k164_181, k164_183, k164_184, k164_186, k164_188, k164_189, k164_191, k164_193, k164_195, k164_196, k164_198, k164_201, k164_204, k164_206, k164_208, k164_209, k164_211, k164_212, k164_214, k164_215, k164_217, k164_219, k164_221, k164_223, k164_225, k164_227, k164_230, k164_231, k164_233, k164_235, k164_236, k164_238, k164_240, k164_241, k164_243, k164_245, k164_247, k164_248, k164_250, k164_252, k164_254, k164_255, k164_258, k164_261, if_true, if_false, ite_true, ite_false, not_true_eq_false, not_false_eq_true, true_or, or_true, false_or, or_false, and_self, ok_n0, ok_ni, ok_nr, ok_nl, va_rf_some, va_rf_none, true_and, and_true, List.length_nil, List.length_cons, Option.toList_some, Option.toList_none, List.cons_append, List.nil_append, rK_uA, rK_uI, rK_uJ, rK_uP, rP_uA, rP_uI, rP_uJ, rJ_uA, rJ_uI, rJ_uP, rI_uJ, rI_uP, rz_uA, rz_uI, rz_uJ, rz_uP, rs_uA, rs_uI, rs_uJ, rs_uP, Nat.reduceAdd, Nat.reduceMul, Nat.reduceSub, Nat.reduceLeDiff, Nat.reduceLT, Nat.reduceEqDiff, Nat.add_zero, Nat.zero_add, Nat.zero_le, a1, k0, b15, ar_le]
      exact hQ H A B hB (fun t ht => hT t (Nat.zero_le _) ht)
    | succ P =>
      obtain ⟨f, k, hfk, ⟨g, fu, p1, p2, p3, p4, p5, p6, p7, p8, p9⟩, hS'⟩ := hS
      have c1 : ¬ P + 1 ≤ 0 := by omega
      have cP : P < 64 := by omega
      have e1 : P + 1 - 1 = P := by omega
      have d9 : ¬ M + 9 = M := by omega
      have d10 : ¬ M + 10 = M := by omega
      have d11 : ¬ M + 11 = M := by omega
      have d12 : ¬ M + 12 = M := by omega
      have d13 : ¬ M + 13 = M := by omega
      have d14 : ¬ M + 14 = M := by omega
      have hB' : BS (uI H M 20 (nI P)) M h0 A B P := by
        refine ⟨a1, a2, a3, a4, a5, ?_, ?_, ?_, ?_, ?_, ?_, ?_, ?_, ?_, ?_, ?_, ?_, ?_⟩
        · rw [rI_uI, if_neg (by omega)]; exact b5
        · rw [rI_uI, if_neg (by omega)]; exact b6
        · rw [rI_uI, if_neg (by omega)]; exact b7
        · rw [rI_uI, if_neg (by omega)]; exact b8
        · rw [rI_uI, if_neg (by omega)]; exact b9
        · rw [rI_uI, if_neg (by omega)]; exact b10
        · rw [rI_uI, if_neg (by omega)]; exact b11
        · rw [rI_uI, if_neg (by omega)]; exact b12
        · rw [rI_uI, if_neg (by omega)]; exact b13
        · rw [rI_uI, if_neg (by omega)]; exact b14
        · rw [rI_uI, if_pos rfl, pk_us]
        · intro b hb; rw [rI_uI, if_neg (by omega)]; exact b16 b hb
        · intro j hj; rw [rI_uI, if_pos rfl, pk_un hj]; exact b17 j hj
      have hk0 : ¬ k = 0 := by omega
      have hg2 : g 3 ≤ g 2 ∨ g 2 < g 3 := by
        rcases Decidable.em (g 2 < g 3) with q | q
        · exact Or.inr q
        · exact Or.inl (by rw [← Int32.not_lt]; exact q)
      simp (disch := omega) only [k164_0, k164_1, k164_2, k164_5, k164_6, k164_9, k164_12, k164_13, k164_14, k164_15, k164_18, k164_19, k164_20, k164_21, k164_23, k164_27, k164_30, k164_33, k164_34, k164_34i, k164_35, k164_38, k164_39, k164_40, k164_43, k164_44, k164_47, k164_48, k164_51, k164_52, k164_54, k164_55, k164_58, k164_59, k164_62, k164_63, k164_65, k164_66, k164_69, k164_70, k164_73, k164_74, k164_76, k164_77, k164_80, k164_81, k164_84, k164_85, k164_87, k164_88, k164_91, k164_92, k164_95, k164_96, k164_98, k164_99, k164_102, k164_103, k164_106, k164_107, k164_109, k164_111, k164_112, k164_113, k164_114, k164_115, k164_117, k164_119, k164_120, k164_123, k164_124, k164_126, k164_128, k164_130, k164_132, k164_134, k164_137, k164_140, k164_142, k164_144, k164_147, k164_149, k164_151, k164_152, k164_154, k164_155, k164_157, k164_158, k164_160, k164_162, k164_164, k164_166, k164_168, k164_170, k164_173, k164_174, k164_176, k164_178, k164_179, k164_181, k164_183, k164_184, k164_186, k164_188, k164_189, k164_191, k164_193, k164_195, k164_196, k164_198, k164_201, k164_204, k164_206, k164_208, k164_209, k164_211, k164_212, k164_214, k164_215, k164_217, k164_219, k164_221, k164_223, k164_225, k164_227, k164_230, k164_231, k164_233, k164_235, k164_236, k164_238, k164_240, k164_241, k164_243, k164_245, k164_247, k164_248, k164_250, k164_252, k164_254, k164_255, k164_258, k164_261, if_true, if_false, ite_true, ite_false, not_true_eq_false, not_false_eq_true, true_or, or_true, false_or, or_false, and_self, ok_n0, ok_ni, ok_nr, ok_nl, va_rf_some, va_rf_none, true_and, and_true, List.length_nil, List.length_cons, Option.toList_some, Option.toList_none, List.cons_append, List.nil_append, rK_uA, rK_uI, rK_uJ, rK_uP, rP_uA, rP_uI, rP_uJ, rJ_uA, rJ_uI, rJ_uP, rI_uJ, rI_uP, rz_uA, rz_uI, rz_uJ, rz_uP, rs_uA, rs_uI, rs_uJ, rs_uP, Nat.reduceAdd, Nat.reduceMul, Nat.reduceSub, Nat.reduceLeDiff, Nat.reduceLT, Nat.reduceEqDiff, Nat.add_zero, Nat.zero_add, Nat.zero_le, a1, a2, k0, m1, m2, m3, m4, m5, m6, m7, m8, m9, m10, m11, m12, rI_uI, pk_us, d9, d10, d11, d12, d13, d14, b9, b10, b11, b12, b13, b14, b15, p1, p2, p3, p4, p5, p6, o5, o6, o7, o8, o9, o10, o11, ar_le, ar_add, ar_sub, ar_div, ar_eq, ar_oki, ar_cl, c1, cP, e1, hk0]
      by_cases ck : k = 1
      · subst ck
        simp only [if_true, if_false, ite_true, ite_false, not_true_eq_false, not_false_eq_true, true_or, or_true, false_or, or_false, and_self, ok_n0, ok_ni, ok_nr, ok_nl, va_rf_some, va_rf_none, true_and, and_true, List.length_nil, List.length_cons, Option.toList_some, Option.toList_none, List.cons_append, List.nil_append, rK_uA, rK_uI, rK_uJ, rK_uP, rP_uA, rP_uI, rP_uJ, rJ_uA, rJ_uI, rJ_uP, rI_uJ, rI_uP, rz_uA, rz_uI, rz_uJ, rz_uP, rs_uA, rs_uI, rs_uJ, rs_uP, Nat.reduceAdd, Nat.reduceMul, Nat.reduceSub, Nat.reduceLeDiff, Nat.reduceLT, Nat.reduceEqDiff, Nat.add_zero, Nat.zero_add, Nat.zero_le]
        refine s_bput t hB' (show f < 60 by omega) _ _ _ _ _ (fun H' hH' => ?_)
        simp only [k164_0, k164_1, k164_2, k164_5, k164_6, k164_9, k164_12, k164_13, k164_14, k164_15, k164_18, k164_19, k164_20, k164_21, k164_23, k164_27, k164_30, k164_33, k164_34, k164_34i, k164_35, k164_38, k164_39, k164_40, k164_43, k164_44, k164_47, k164_48, k164_51, k164_52, k164_54, k164_55, k164_58, k164_59, k164_62, k164_63, k164_65, k164_66, k164_69, k164_70, k164_73, k164_74, k164_76, k164_77, k164_80, k164_81, k164_84, k164_85, k164_87, k164_88, k164_91, k164_92, k164_95, k164_96, k164_98, k164_99, k164_102, k164_103, k164_106, k164_107, k164_109, k164_111, k164_112, k164_113, k164_114, k164_115, k164_117, k164_119, k164_120, k164_123, k164_124, k164_126, k164_128, k164_130, k164_132, k164_134, k164_137, k164_140, k164_142, k164_144, k164_147, k164_149, k164_151, k164_152, k164_154, k164_155, k164_157, k164_158, k164_160, k164_162, k164_164, k164_166, k164_168, k164_170, k164_173, k164_174, k164_176, k164_178, k164_179, k164_181, k164_183, k164_184, k164_186, k164_188, k164_189, k164_191, k164_193, k164_195, k164_196, k164_198, k164_201, k164_204, k164_206, k164_208, k164_209, k164_211, k164_212, k164_214, k164_215, k164_217, k164_219, k164_221, k164_223, k164_225, k164_227, k164_230, k164_231, k164_233, k164_235, k164_236, k164_238, k164_240, k164_241, k164_243, k164_245, k164_247, k164_248, k164_250, k164_252, k164_254, k164_255, k164_258, k164_261, if_true, if_false, ite_true, ite_false, not_true_eq_false, not_false_eq_true, true_or, or_true, false_or, or_false, and_self, ok_n0, ok_ni, ok_nr, ok_nl, va_rf_some, va_rf_none, true_and, and_true, List.length_nil, List.length_cons, Option.toList_some, Option.toList_none, List.cons_append, List.nil_append, rK_uA, rK_uI, rK_uJ, rK_uP, rP_uA, rP_uI, rP_uJ, rJ_uA, rJ_uI, rJ_uP, rI_uJ, rI_uP, rz_uA, rz_uI, rz_uJ, rz_uP, rs_uA, rs_uI, rs_uJ, rs_uP, Nat.reduceAdd, Nat.reduceMul, Nat.reduceSub, Nat.reduceLeDiff, Nat.reduceLT, Nat.reduceEqDiff, Nat.add_zero, Nat.zero_add, Nat.zero_le]
        refine ih H' _ B P f _ _ _ _ _ _ _ _ (ok_ni _) (ok_ni _) (ok_ni _) (ok_ni _) (ok_ni _) (ok_ni _) (ok_ni _) (by omega) (by omega) hH' hS' (fun t h1 h2 => ?_)
        by_cases ht : t = f
        · subst ht
          have q := p9 0 (by omega)
          have q2 : balB fu g 0 1 = g := by
            cases fu with
            | zero => rfl
            | succ fu => rw [balB, if_neg (by omega)]
          rw [q2, Nat.add_zero] at q
          obtain ⟨q0, q1, q2, q3⟩ := q
          refine ⟨?_, ?_, ?_, ?_⟩ <;> simp only [putT, pk_us] <;> assumption
        · have q := hT t (by omega) h2
          obtain ⟨q0, q1, q2, q3⟩ := q
          refine ⟨?_, ?_, ?_, ?_⟩ <;> simp only [putT, pk_un ht] <;> assumption
      · obtain ⟨fu', rfl⟩ : ∃ z, fu = z + 1 := ⟨fu - 1, by omega⟩
        have hP2 : P + 1 < 64 := by have := hS'.len; omega
        have n1 : 1 < k := by omega
        by_cases c4 : g 2 < g 3
        · simp only [ck, c4, if_true, if_false, ite_true, ite_false, not_true_eq_false, not_false_eq_true, true_or, or_true, false_or, or_false, and_self, ok_n0, ok_ni, ok_nr, ok_nl, va_rf_some, va_rf_none, true_and, and_true, List.length_nil, List.length_cons, Option.toList_some, Option.toList_none, List.cons_append, List.nil_append, rK_uA, rK_uI, rK_uJ, rK_uP, rP_uA, rP_uI, rP_uJ, rJ_uA, rJ_uI, rJ_uP, rI_uJ, rI_uP, rz_uA, rz_uI, rz_uJ, rz_uP, rs_uA, rs_uI, rs_uJ, rs_uP, Nat.reduceAdd, Nat.reduceMul, Nat.reduceSub, Nat.reduceLeDiff, Nat.reduceLT, Nat.reduceEqDiff, Nat.add_zero, Nat.zero_add, Nat.zero_le]
          refine s_part t t2 hB' cP _ _ _ _ _ _ _ (fun H1 hH1 => ?_)
          simp only [if_true, if_false, ite_true, ite_false, not_true_eq_false, not_false_eq_true, true_or, or_true, false_or, or_false, and_self, ok_n0, ok_ni, ok_nr, ok_nl, va_rf_some, va_rf_none, true_and, and_true, List.length_nil, List.length_cons, Option.toList_some, Option.toList_none, List.cons_append, List.nil_append, rK_uA, rK_uI, rK_uJ, rK_uP, rP_uA, rP_uI, rP_uJ, rJ_uA, rJ_uI, rJ_uP, rI_uJ, rI_uP, rz_uA, rz_uI, rz_uJ, rz_uP, rs_uA, rs_uI, rs_uJ, rs_uP, Nat.reduceAdd, Nat.reduceMul, Nat.reduceSub, Nat.reduceLeDiff, Nat.reduceLT, Nat.reduceEqDiff, Nat.add_zero, Nat.zero_add, Nat.zero_le, hH1.1, k0]
          refine s_part t t2 hH1 hP2 _ _ _ _ _ _ _ (fun H2 hH2 => ?_)
          simp only [if_true, if_false, ite_true, ite_false, not_true_eq_false, not_false_eq_true, true_or, or_true, false_or, or_false, and_self, ok_n0, ok_ni, ok_nr, ok_nl, va_rf_some, va_rf_none, true_and, and_true, List.length_nil, List.length_cons, Option.toList_some, Option.toList_none, List.cons_append, List.nil_append, rK_uA, rK_uI, rK_uJ, rK_uP, rP_uA, rP_uI, rP_uJ, rJ_uA, rJ_uI, rJ_uP, rI_uJ, rI_uP, rz_uA, rz_uI, rz_uJ, rz_uP, rs_uA, rs_uI, rs_uJ, rs_uP, Nat.reduceAdd, Nat.reduceMul, Nat.reduceSub, Nat.reduceLeDiff, Nat.reduceLT, Nat.reduceEqDiff, Nat.add_zero, Nat.zero_add, Nat.zero_le]
          refine ih H2 A _ (P + 1 + 1) e _ _ _ _ _ _ _ _ (ok_ni _) (ok_ni _) (ok_ni _) (ok_ni _) (ok_ni _) (ok_ni _) (ok_ni _) (by omega) heN hH2 ⟨f + (k + 1) / 2, k - (k + 1) / 2, by omega, ?_, f, (k + 1) / 2, rfl, ?_, (hS'.psh (Nat.le_refl _)).psh (by omega)⟩ hT
          · refine ⟨tnB (drL (tnB g) (tnB g 2 * nI ((k + 1) / 2) / nI k)), fu', ?_, ?_, ?_, ?_, ?_, ?_, by omega, by omega, fun u hu => ?_⟩
            · simp [pshB, upd]
            · simp [pshB, upd]
            · simp [pshB, upd, tnB, drL, bx4]
            · simp [pshB, upd, tnB, drL, bx4]
            · simp [pshB, upd, tnB, drL, bx4]
            · simp [pshB, upd, tnB, drL, bx4]
            · have q := p9 ((k + 1) / 2 + u) (by omega)
              rw [balB, if_pos n1, if_pos c4, if_neg (by omega), show (k + 1) / 2 + u - (k + 1) / 2 = u by omega] at q
              rw [Nat.add_assoc]; exact q
          · refine ⟨tnB (kpL (tnB g) (tnB g 2 * nI ((k + 1) / 2) / nI k)), fu', ?_, ?_, ?_, ?_, ?_, ?_, by omega, by omega, fun u hu => ?_⟩
            · simp [pshB, upd]
            · simp [pshB, upd]
            · simp [pshB, upd, tnB, kpL, bx4]
            · simp [pshB, upd, tnB, kpL, bx4]
            · simp [pshB, upd, tnB, kpL, bx4]
            · simp [pshB, upd, tnB, kpL, bx4]
            · have q := p9 u (by omega)
              rw [balB, if_pos n1, if_pos c4, if_pos hu] at q
              exact q
        · simp only [ck, c4, if_true, if_false, ite_true, ite_false, not_true_eq_false, not_false_eq_true, true_or, or_true, false_or, or_false, and_self, ok_n0, ok_ni, ok_nr, ok_nl, va_rf_some, va_rf_none, true_and, and_true, List.length_nil, List.length_cons, Option.toList_some, Option.toList_none, List.cons_append, List.nil_append, rK_uA, rK_uI, rK_uJ, rK_uP, rP_uA, rP_uI, rP_uJ, rJ_uA, rJ_uI, rJ_uP, rI_uJ, rI_uP, rz_uA, rz_uI, rz_uJ, rz_uP, rs_uA, rs_uI, rs_uJ, rs_uP, Nat.reduceAdd, Nat.reduceMul, Nat.reduceSub, Nat.reduceLeDiff, Nat.reduceLT, Nat.reduceEqDiff, Nat.add_zero, Nat.zero_add, Nat.zero_le]
          refine s_part t t2 hB' cP _ _ _ _ _ _ _ (fun H1 hH1 => ?_)
          simp only [if_true, if_false, ite_true, ite_false, not_true_eq_false, not_false_eq_true, true_or, or_true, false_or, or_false, and_self, ok_n0, ok_ni, ok_nr, ok_nl, va_rf_some, va_rf_none, true_and, and_true, List.length_nil, List.length_cons, Option.toList_some, Option.toList_none, List.cons_append, List.nil_append, rK_uA, rK_uI, rK_uJ, rK_uP, rP_uA, rP_uI, rP_uJ, rJ_uA, rJ_uI, rJ_uP, rI_uJ, rI_uP, rz_uA, rz_uI, rz_uJ, rz_uP, rs_uA, rs_uI, rs_uJ, rs_uP, Nat.reduceAdd, Nat.reduceMul, Nat.reduceSub, Nat.reduceLeDiff, Nat.reduceLT, Nat.reduceEqDiff, Nat.add_zero, Nat.zero_add, Nat.zero_le, hH1.1, k0]
          refine s_part t t2 hH1 hP2 _ _ _ _ _ _ _ (fun H2 hH2 => ?_)
          simp only [k164_0, k164_1, k164_2, k164_5, k164_6, k164_9, k164_12, k164_13, k164_14, k164_15, k164_18, k164_19, k164_20, k164_21, k164_23, k164_27, k164_30, k164_33, k164_34, k164_34i, k164_35, k164_38, k164_39, k164_40, k164_43, k164_44, k164_47, k164_48, k164_51, k164_52, k164_54, k164_55, k164_58, k164_59, k164_62, k164_63, k164_65, k164_66, k164_69, k164_70, k164_73, k164_74, k164_76, k164_77, k164_80, k164_81, k164_84, k164_85, k164_87, k164_88, k164_91, k164_92, k164_95, k164_96, k164_98, k164_99, k164_102, k164_103, k164_106, k164_107, k164_109, k164_111, k164_112, k164_113, k164_114, k164_115, k164_117, k164_119, k164_120, k164_123, k164_124, k164_126, k164_128, k164_130, k164_132, k164_134, k164_137, k164_140, k164_142, k164_144, k164_147, k164_149, k164_151, k164_152, k164_154, k164_155, k164_157, k164_158, k164_160, k164_162, k164_164, k164_166, k164_168, k164_170, k164_173, k164_174, k164_176, k164_178, k164_179, k164_181, k164_183, k164_184, k164_186, k164_188, k164_189, k164_191, k164_193, k164_195, k164_196, k164_198, k164_201, k164_204, k164_206, k164_208, k164_209, k164_211, k164_212, k164_214, k164_215, k164_217, k164_219, k164_221, k164_223, k164_225, k164_227, k164_230, k164_231, k164_233, k164_235, k164_236, k164_238, k164_240, k164_241, k164_243, k164_245, k164_247, k164_248, k164_250, k164_252, k164_254, k164_255, k164_258, k164_261, if_true, if_false, ite_true, ite_false, not_true_eq_false, not_false_eq_true, true_or, or_true, false_or, or_false, and_self, ok_n0, ok_ni, ok_nr, ok_nl, va_rf_some, va_rf_none, true_and, and_true, List.length_nil, List.length_cons, Option.toList_some, Option.toList_none, List.cons_append, List.nil_append, rK_uA, rK_uI, rK_uJ, rK_uP, rP_uA, rP_uI, rP_uJ, rJ_uA, rJ_uI, rJ_uP, rI_uJ, rI_uP, rz_uA, rz_uI, rz_uJ, rz_uP, rs_uA, rs_uI, rs_uJ, rs_uP, Nat.reduceAdd, Nat.reduceMul, Nat.reduceSub, Nat.reduceLeDiff, Nat.reduceLT, Nat.reduceEqDiff, Nat.add_zero, Nat.zero_add, Nat.zero_le]
          refine ih H2 A _ (P + 1 + 1) e _ _ _ _ _ _ _ _ (ok_ni _) (ok_ni _) (ok_ni _) (ok_ni _) (ok_ni _) (ok_ni _) (ok_ni _) (by omega) heN hH2 ⟨f + (k + 1) / 2, k - (k + 1) / 2, by omega, ?_, f, (k + 1) / 2, rfl, ?_, (hS'.psh (Nat.le_refl _)).psh (by omega)⟩ hT
          · refine ⟨drL g (g 2 * nI ((k + 1) / 2) / nI k), fu', ?_, ?_, ?_, ?_, ?_, ?_, by omega, by omega, fun u hu => ?_⟩
            · simp [pshB, upd]
            · simp [pshB, upd]
            · simp [pshB, upd, drL]
            · simp [pshB, upd, drL]
            · simp [pshB, upd, drL]
            · simp [pshB, upd, drL]
            · have q := p9 ((k + 1) / 2 + u) (by omega)
              rw [balB, if_pos n1, if_neg c4, if_neg (by omega), show (k + 1) / 2 + u - (k + 1) / 2 = u by omega] at q
              rw [Nat.add_assoc]; exact q
          · refine ⟨kpL g (g 2 * nI ((k + 1) / 2) / nI k), fu', ?_, ?_, ?_, ?_, ?_, ?_, by omega, by omega, fun u hu => ?_⟩
            · simp [pshB, upd]
            · simp [pshB, upd]
            · simp [pshB, upd, kpL]
            · simp [pshB, upd, kpL]
            · simp [pshB, upd, kpL]
            · simp [pshB, upd, kpL]
            · have q := p9 u (by omega)
              rw [balB, if_pos n1, if_neg c4, if_pos hu] at q
              exact q
