/-! DESK: boxes looked up -/
def eq4 (g g' : Nat → Int32) : Prop := g 0 = g' 0 ∧ g 1 = g' 1 ∧ g 2 = g' 2 ∧ g 3 = g' 3
theorem eq4_upd {g g' : Nat → Int32} (e : eq4 g g') (k : Nat) (x : Int32) : eq4 (upd g k x) (upd g' k x) := by
  obtain ⟨e0, e1, e2, e3⟩ := e
  refine ⟨?_, ?_, ?_, ?_⟩ <;> simp only [upd_at] <;> split <;> first | rfl | assumption
theorem eq4_bx (g g' : Nat → Int32) (x y w hh : Int32) : eq4 (bx4 g x y w hh) (bx4 g' x y w hh) := by
  simp [eq4, bx4, upd]
theorem eq4_stk {g g' : Nat → Int32} (e : eq4 g g') (i n : Int32) : eq4 (stk g i n) (stk g' i n) := by
  have e' := e
  obtain ⟨e0, e1, e2, e3⟩ := e
  unfold stk
  rw [e1, e3]
  exact eq4_upd (eq4_upd e' _ _) _ _
theorem eq4_lnu {g g' : Nat → Int32} (e : eq4 g g') (i n : Int32) : eq4 (lnu g i n) (lnu g' i n) := by
  have e' := e
  obtain ⟨e0, e1, e2, e3⟩ := e
  unfold lnu
  rw [e0, e2]
  exact eq4_upd (eq4_upd e' _ _) _ _
theorem eq4_kpL {g g' : Nat → Int32} (e : eq4 g g') (w : Int32) : eq4 (kpL g w) (kpL g' w) := eq4_upd e _ _
theorem eq4_drL {g g' : Nat → Int32} (e : eq4 g g') (w : Int32) : eq4 (drL g w) (drL g' w) := by
  have e' := e
  obtain ⟨e0, e1, e2, e3⟩ := e
  unfold drL
  rw [e0, e2]
  exact eq4_upd (eq4_upd e' _ _) _ _
theorem eq4_tnB {g g' : Nat → Int32} (e : eq4 g g') : eq4 (tnB g) (tnB g') := by
  obtain ⟨e0, e1, e2, e3⟩ := e
  unfold tnB
  rw [e0, e1, e2, e3]
  exact eq4_bx _ _ _ _ _ _
theorem eq4_tallB {g g' : Nat → Int32} (e : eq4 g g') (m p k n : Int32) : eq4 (tallB g m p k n) (tallB g' m p k n) := by
  unfold tallB
  rw [e.2.2.1]
  split
  · exact eq4_stk e _ _
  · split
    · exact eq4_stk (eq4_kpL e _) _ _
    · exact eq4_stk (eq4_drL e _) _ _
theorem eq4_middleB {g g' : Nat → Int32} (e : eq4 g g') (m p k n : Int32) : eq4 (middleB g m p k n) (middleB g' m p k n) := by
  unfold middleB
  rw [e.2.2.1]
  split
  · exact eq4_stk (eq4_kpL (eq4_drL e _) _) _ _
  · split
    · exact eq4_stk (eq4_drL e _) _ _
    · exact eq4_stk (eq4_kpL e _) _ _
theorem eq4_gridL {g g' : Nat → Int32} (e : eq4 g g') (k n c : Nat) : ∀ m i, eq4 (gridL g k n c m i) (gridL g' k n c m i) := by
  intro m
  induction m with
  | zero => intro i; exact e
  | succ m ih =>
    intro i
    rw [gridL, gridL]
    split
    · exact eq4_stk (eq4_lnu e _ _) _ _
    · exact ih (i + 1)
theorem eq4_balB : ∀ (f : Nat) {g g' : Nat → Int32} (_ : eq4 g g') (k n : Nat), eq4 (balB f g k n) (balB f g' k n) := by
  intro f
  induction f with
  | zero => intro g g' e k n; exact e
  | succ f ih =>
    intro g g' e k n
    rw [balB, balB]
    have e2 := eq4_tnB e
    rw [e.2.2.1, e.2.2.2, e2.2.2.1]
    split
    · split
      · split
        · exact ih (eq4_tnB (eq4_kpL e2 _)) _ _
        · exact ih (eq4_tnB (eq4_drL e2 _)) _ _
      · split
        · exact ih (eq4_kpL e _) _ _
        · exact ih (eq4_drL e _) _ _
    · exact e
theorem eq4_narB {g g' : Nat → Int32} (e : eq4 g g') (t m p : Int32) (k n : Nat) : eq4 (narB g t m p k n) (narB g' t m p k n) := by
  unfold narB
  rw [e.2.2.1]
  split
  · exact eq4_tnB (eq4_tallB (eq4_tnB e) _ _ _ _)
  · split
    · exact e
    · split
      · exact eq4_gridL e _ _ _ _ _
      · split
        · exact eq4_balB 60 e _ _
        · split
          · split
            · exact eq4_middleB e _ _ _ _
            · exact eq4_tallB e _ _ _ _
          · exact eq4_tallB e _ _ _ _
theorem eq4_holds {g g' : Nat → Int32} (e : eq4 g g') (x y : Int32) : bholds g x y = bholds g' x y := by
  obtain ⟨e0, e1, e2, e3⟩ := e
  simp only [bholds, e0, e1, e2, e3]
theorem eq4_side {g g' : Nat → Int32} (e : eq4 g g') (x : Int32) : bside g x = bside g' x := by
  obtain ⟨e0, e1, e2, e3⟩ := e
  simp only [bside, e0, e1, e2, e3]
/-- where a float is on a screen -/
def flR (B sh : Nat → Int32) (w : Nat) : Nat → Int32 := bx4 (fun _ => 0) (B 0 + B 2 * sh (w * 4) / nI 1000) (B 1 + B 3 * sh (w * 4 + 1) / nI 1000) (B 2 * sh (w * 4 + 2) / nI 1000) (B 3 * sh (w * 4 + 3) / nI 1000)
theorem tcnt_le (x : Int64) (f : Nat → Int32) : ∀ m i a, tcnt x f m i a ≤ a + m := by
  intro m
  induction m with
  | zero => intro i a; exact Nat.le_refl _
  | succ m ih =>
    intro i a
    rw [tcnt]
    split
    · have := ih (i + 1) a; omega
    · have := ih (i + 1) (a + 1); omega
/-- a desk, seen through a box outside it -/
theorem DS.box {h : pm_H} {d : Nat} {C : Nat → Nat} {n cu s1 s2 : Nat} (t : DS h d C n cu s1 s2) {q : Nat} (hq : q < d ∨ d + 53 ≤ q) (g : Nat → Int32) : DS (uA h q g) d C n cu s1 s2 := by
  obtain ⟨k, c, ⟨s0, u1, u2, u3, u4, u5, u6, u7, u8⟩⟩ := t
  refine ⟨k, fun i hi => ⟨?_, (c i hi).2⟩, s0, ?_, u2, ?_, u4, ?_, u6, ?_, u8⟩
  · rw [rI_uA, if_neg (by omega)]; exact (c i hi).1
  · rw [rI_uA, if_neg (by omega)]; exact u1
  · rw [rI_uA, if_neg (by omega)]; exact u3
  · rw [rI_uA, if_neg (by omega)]; exact u5
  · rw [rI_uA, if_neg (by omega)]; exact u7
theorem fhas_nI {x : Int64} {w : Int32} (h : fhas x w = true) : ∃ j : Nat, j < 60 ∧ w = nI j := by
  rcases ar_ix w (n := 60) (by omega) with ⟨h1, h2⟩ | ⟨h1, h2, h3⟩ | ⟨j, hj, rfl⟩
  · have c1 : ¬ nI 0 ≤ w := by rw [Int32.not_le]; exact h1
    simp [fhas, c1] at h
  · have c1 : ¬ w < nI 60 := by rw [Int32.not_lt]; exact h2
    simp [fhas, c1] at h
  · exact ⟨j, hj, rfl⟩
noncomputable def fholds (y : Int64) (B sh : Nat → Int32) (w a b : Int32) : Bool := fhas y w && bholds (flR B sh w.toNatClampNeg) a b
theorem s_floatHolds {h : pm_H} {d : Nat} {C : Nat → Nat} {n cu s1 s2 j q : Nat} (t : DS h d C n cu s1 s2) (hj : j < 4) (kq : rK h q = (1, 0)) (hq : q < d ∨ d + 53 ≤ q) (w x y : Int32) (Q : Option Value × pm_H → Prop) (hQ : ∀ g, Q (some (.int (nb (fholds (rJ h (d + 50) 0) (rI h (d + 39 + 2 + j)) (rI h (d + 51)) w x y))), uA h q g)) : pGo 26 0 [some (.ref d), some (.int w), some (.int (nI j)), some (.int x), some (.int y), some (.ref q)] [] h Q := by
  obtain ⟨⟨k0, k1, k2, k3, k4, k5, k6, k7, k8, k9, k10, k11, k12, k13⟩, c, sc⟩ := id t
  obtain ⟨s0, s1', s2', s3, s4, -⟩ := k9
  simp (disch := omega) only [k26_0, k26_1, k26_4, k26_5, k26_8, k26_11, k26_12, k26_13, k26_15, k26_16, k26_19, k26_22, k26_23, k26_24, k26_27, k26_28, k26_31, k26_33, k26_34, k26_37, k26_39, k26_40, k26_42, k26_45, s_Floats_has k11, if_true, if_false, ite_true, ite_false, not_true_eq_false, not_false_eq_true, true_or, or_true, false_or, or_false, and_self, ok_n0, ok_ni, ok_nr, ok_nl, va_rf_some, va_rf_none, true_and, and_true, List.length_nil, List.length_cons, Option.toList_some, Option.toList_none, List.cons_append, List.nil_append, rK_uA, rK_uI, rK_uJ, rK_uP, rP_uA, rP_uI, rP_uJ, rJ_uA, rJ_uI, rJ_uP, rI_uJ, rI_uP, rz_uA, rz_uI, rz_uJ, rz_uP, rs_uA, rs_uI, rs_uJ, rs_uP, Nat.reduceAdd, Nat.reduceMul, Nat.reduceSub, Nat.reduceLeDiff, Nat.reduceLT, Nat.reduceEqDiff, Nat.add_zero, Nat.zero_add, Nat.zero_le, k0, k10, k11.1, nb_0]
  cases hb : fhas (rJ h (d + 50) 0) w with
  | false =>
    simp only [if_true, if_false, ite_true, ite_false, not_true_eq_false, not_false_eq_true, true_or, or_true, false_or, or_false, and_self, ok_n0, ok_ni, ok_nr, ok_nl, va_rf_some, va_rf_none, true_and, and_true, List.length_nil, List.length_cons, Option.toList_some, Option.toList_none, List.cons_append, List.nil_append, rK_uA, rK_uI, rK_uJ, rK_uP, rP_uA, rP_uI, rP_uJ, rJ_uA, rJ_uI, rJ_uP, rI_uJ, rI_uP, rz_uA, rz_uI, rz_uJ, rz_uP, rs_uA, rs_uI, rs_uJ, rs_uP, Nat.reduceAdd, Nat.reduceMul, Nat.reduceSub, Nat.reduceLeDiff, Nat.reduceLT, Nat.reduceEqDiff, Nat.add_zero, Nat.zero_add, Nat.zero_le]
    have := hQ (rI h q)
    rw [uA_self] at this
    simpa only [fholds, hb, Bool.false_and, nb_f] using this
  | true =>
    obtain ⟨v, hv, rfl⟩ := fhas_nI hb
    have d1 : ¬ d + 51 = q := by omega
    have d2 : ¬ d + 39 + 2 + j = q := by omega
    have kq' : ∀ g, rK (uA h q g) q = (1, 0) := fun g => kq
    have k11' : ∀ g, FLT (uA h q g) (d + 50) (d + 51) := fun g => k11
    simp (disch := omega) only [k26_0, k26_1, k26_4, k26_5, k26_8, k26_11, k26_12, k26_13, k26_15, k26_16, k26_19, k26_22, k26_23, k26_24, k26_27, k26_28, k26_31, k26_33, k26_34, k26_37, k26_39, k26_40, k26_42, k26_45, if_true, if_false, ite_true, ite_false, not_true_eq_false, not_false_eq_true, true_or, or_true, false_or, or_false, and_self, ok_n0, ok_ni, ok_nr, ok_nl, va_rf_some, va_rf_none, true_and, and_true, List.length_nil, List.length_cons, Option.toList_some, Option.toList_none, List.cons_append, List.nil_append, rK_uA, rK_uI, rK_uJ, rK_uP, rP_uA, rP_uI, rP_uJ, rJ_uA, rJ_uI, rJ_uP, rI_uJ, rI_uP, rz_uA, rz_uI, rz_uJ, rz_uP, rs_uA, rs_uI, rs_uJ, rs_uP, Nat.reduceAdd, Nat.reduceMul, Nat.reduceSub, Nat.reduceLeDiff, Nat.reduceLT, Nat.reduceEqDiff, Nat.add_zero, Nat.zero_add, Nat.zero_le, reduceCtorEq, k0, k8, k10, k11.1, s0, s1', s2', s3 j hj, s4 j hj, s_Box_fill kq (s4 j hj), s_Floats_narrow (k11' _) (kq' _) hv, s_Box_holds (kq' _), rI_uA, d1, d2, uA_uA, ar_okr, ar_cl, hj, kq, bx4_0, bx4_1, bx4_2, bx4_3, nb_ok]
    have := hQ (bx4 (bx4 (rI h q) (rI h (d + 39 + 2 + j) 0) (rI h (d + 39 + 2 + j) 1) (rI h (d + 39 + 2 + j) 2) (rI h (d + 39 + 2 + j) 3)) (rI h (d + 39 + 2 + j) 0 + rI h (d + 39 + 2 + j) 2 * rI h (d + 51) (v * 4) / nI 1000) (rI h (d + 39 + 2 + j) 1 + rI h (d + 39 + 2 + j) 3 * rI h (d + 51) (v * 4 + 1) / nI 1000) (rI h (d + 39 + 2 + j) 2 * rI h (d + 51) (v * 4 + 2) / nI 1000) (rI h (d + 39 + 2 + j) 3 * rI h (d + 51) (v * 4 + 3) / nI 1000))
    have e : fholds (rJ h (d + 50) 0) (rI h (d + 39 + 2 + j)) (rI h (d + 51)) (nI v) x y = bholds (bx4 (bx4 (rI h q) (rI h (d + 39 + 2 + j) 0) (rI h (d + 39 + 2 + j) 1) (rI h (d + 39 + 2 + j) 2) (rI h (d + 39 + 2 + j) 3)) (rI h (d + 39 + 2 + j) 0 + rI h (d + 39 + 2 + j) 2 * rI h (d + 51) (v * 4) / nI 1000) (rI h (d + 39 + 2 + j) 1 + rI h (d + 39 + 2 + j) 3 * rI h (d + 51) (v * 4 + 1) / nI 1000) (rI h (d + 39 + 2 + j) 2 * rI h (d + 51) (v * 4 + 2) / nI 1000) (rI h (d + 39 + 2 + j) 3 * rI h (d + 51) (v * 4 + 3) / nI 1000)) x y := by
      rw [fholds, hb, Bool.true_and, ar_cl (by omega)]
      exact eq4_holds (eq4_bx _ _ _ _ _ _) x y
    rw [e] at this
    exact this
theorem s_findBox_no {h : pm_H} {d q : Nat} (t : DK h d) (w : Int32) (hw : (decide (nI 0 ≤ w ∧ w < nI 60) && decide (¬ rI h (d + 52) w.toNatClampNeg = -1)) = false) (Q : Option Value × pm_H → Prop) : pGo 24 0 [some (.ref d), some (.int w), some (.ref q), none, none, none, none] [] h Q = Q (some (.int (nI 0)), h) := by
  simp only [k24_0, k24_1, k24_2, k24_5, k24_8, k24_9, k24_10, k24_11, k24_14, k24_15, k24_16, k24_17, k24_18, k24_21, k24_22, k24_25, k24_27, k24_29, k24_30, k24_33, k24_34, k24_35, k24_36, k24_37, k24_40, k24_43, k24_45, k24_46, k24_49, k24_50, k24_53, k24_54, k24_57, k24_60, k24_61, k24_64, k24_65, k24_66, k24_69, k24_70, k24_71, k24_72, k24_75, k24_76, k24_77, k24_79, k24_80, k24_83, k24_84, k24_85, k24_88, k24_89, k24_92, k24_93, k24_95, k24_98, k24_99, k24_102, k24_103, k24_106, k24_107, k24_108, k24_109, k24_111, k24_113, k24_116, k24_117, k24_120, k24_123, k24_125, k24_126, k24_129, k24_130, k24_131, k24_132, k24_134, k24_135, k24_137, k24_139, k24_142, k24_145, k24_148, k24_151, k24_152, s_Desk_has t, hw, nb_f, t.1, if_true, if_false, ite_true, ite_false, not_true_eq_false, not_false_eq_true, true_or, or_true, false_or, or_false, and_self, ok_n0, ok_ni, ok_nr, ok_nl, va_rf_some, va_rf_none, true_and, and_true, List.length_nil, List.length_cons, Option.toList_some, Option.toList_none, List.cons_append, List.nil_append, rK_uA, rK_uI, rK_uJ, rK_uP, rP_uA, rP_uI, rP_uJ, rJ_uA, rJ_uI, rJ_uP, rI_uJ, rI_uP, rz_uA, rz_uI, rz_uJ, rz_uP, rs_uA, rs_uI, rs_uJ, rs_uP, Nat.reduceAdd, Nat.reduceMul, Nat.reduceSub, Nat.reduceLeDiff, Nat.reduceLT, Nat.reduceEqDiff, Nat.add_zero, Nat.zero_add, Nat.zero_le]
theorem s_findBox_hid {h : pm_H} {d q : Nat} {C : Nat → Nat} {n cu s1 s2 w : Nat} (t : DS h d C n cu s1 s2) (hw : w < 60) (hm : ¬ rI h (d + 52) w = -1) (hs : lfind (rI h (d + 39 + 6)) (rI h (d + 52) w) n 0 = -1) (Q : Option Value × pm_H → Prop) : pGo 24 0 [some (.ref d), some (.int (nI w)), some (.ref q), none, none, none, none] [] h Q = Q (some (.int (nI 0)), h) := by
  obtain ⟨⟨k0, k1, k2, k3, k4, k5, k6, k7, k8, k9, k10, k11, k12, k13⟩, c, sc⟩ := id t
  have c9 : ¬ nI 1 = nI 0 := by decide +kernel
  simp (disch := omega) only [k24_0, k24_1, k24_2, k24_5, k24_8, k24_9, k24_10, k24_11, k24_14, k24_15, k24_16, k24_17, k24_18, k24_21, k24_22, k24_25, k24_27, k24_29, k24_30, k24_33, k24_34, k24_35, k24_36, k24_37, k24_40, k24_43, k24_45, k24_46, k24_49, k24_50, k24_53, k24_54, k24_57, k24_60, k24_61, k24_64, k24_65, k24_66, k24_69, k24_70, k24_71, k24_72, k24_75, k24_76, k24_77, k24_79, k24_80, k24_83, k24_84, k24_85, k24_88, k24_89, k24_92, k24_93, k24_95, k24_98, k24_99, k24_102, k24_103, k24_106, k24_107, k24_108, k24_109, k24_111, k24_113, k24_116, k24_117, k24_120, k24_123, k24_125, k24_126, k24_129, k24_130, k24_131, k24_132, k24_134, k24_135, k24_137, k24_139, k24_142, k24_145, k24_148, k24_151, k24_152, s_Desk_has t.1, s_Screens_screenOf sc, hs, nb_t, k0, k8, k9.1, k12, k13, ar_le, ar_lt, ar_cl, ar_oki, hw, hm, c9, if_true, if_false, ite_true, ite_false, not_true_eq_false, not_false_eq_true, true_or, or_true, false_or, or_false, and_self, ok_n0, ok_ni, ok_nr, ok_nl, va_rf_some, va_rf_none, true_and, and_true, List.length_nil, List.length_cons, Option.toList_some, Option.toList_none, List.cons_append, List.nil_append, rK_uA, rK_uI, rK_uJ, rK_uP, rP_uA, rP_uI, rP_uJ, rJ_uA, rJ_uI, rJ_uP, rI_uJ, rI_uP, rz_uA, rz_uI, rz_uJ, rz_uP, rs_uA, rs_uI, rs_uJ, rs_uP, Nat.reduceAdd, Nat.reduceMul, Nat.reduceSub, Nat.reduceLeDiff, Nat.reduceLT, Nat.reduceEqDiff, Nat.add_zero, Nat.zero_add, Nat.zero_le, decide_true, Bool.and_self]
theorem s_findBox_flt {h : pm_H} {d q : Nat} {C : Nat → Nat} {n cu s1 s2 w j : Nat} (t : DS h d C n cu s1 s2) (kq : rK h q = (1, 0)) (hq : q < d ∨ d + 53 ≤ q) (hw : w < 60) (hm : ¬ rI h (d + 52) w = -1) (hs : lfind (rI h (d + 39 + 6)) (rI h (d + 52) w) n 0 = nI j) (hj : j < 4) (hf : fhas (rJ h (d + 50) 0) (nI w) = true) (Q : Option Value × pm_H → Prop) (hQ : ∀ g, eq4 g (flR (rI h (d + 39 + 2 + j)) (rI h (d + 51)) w) → Q (some (.int (nI 1)), uA h q g)) : pGo 24 0 [some (.ref d), some (.int (nI w)), some (.ref q), none, none, none, none] [] h Q := by
  obtain ⟨⟨k0, k1, k2, k3, k4, k5, k6, k7, k8, k9, k10, k11, k12, k13⟩, c, sc⟩ := id t
  obtain ⟨s0, s1', s2', s3, s4, -⟩ := k9
  have c9 : ¬ nI 1 = nI 0 := by decide +kernel
  have d1 : ¬ d + 51 = q := by omega
  have kq' : ∀ g, rK (uA h q g) q = (1, 0) := fun g => kq
  have k11' : ∀ g, FLT (uA h q g) (d + 50) (d + 51) := fun g => k11
  simp (disch := omega) only [k24_0, k24_1, k24_2, k24_5, k24_8, k24_9, k24_10, k24_11, k24_14, k24_15, k24_16, k24_17, k24_18, k24_21, k24_22, k24_25, k24_27, k24_29, k24_30, k24_33, k24_34, k24_35, k24_36, k24_37, k24_40, k24_43, k24_45, k24_46, k24_49, k24_50, k24_53, k24_54, k24_57, k24_60, k24_61, k24_64, k24_65, k24_66, k24_69, k24_70, k24_71, k24_72, k24_75, k24_76, k24_77, k24_79, k24_80, k24_83, k24_84, k24_85, k24_88, k24_89, k24_92, k24_93, k24_95, k24_98, k24_99, k24_102, k24_103, k24_106, k24_107, k24_108, k24_109, k24_111, k24_113, k24_116, k24_117, k24_120, k24_123, k24_125, k24_126, k24_129, k24_130, k24_131, k24_132, k24_134, k24_135, k24_137, k24_139, k24_142, k24_145, k24_148, k24_151, k24_152, s_Desk_has t.1, s_Screens_screenOf sc, hs, nb_t, k0, k8, k10, k11.1, k12, k13, s0, s1', s2', s3 j hj, s4 j hj, s_Box_fill kq (s4 j hj), s_Floats_has (k11' _), hf, s_Floats_narrow (k11' _) (kq' _) hw, ar_le, ar_lt, ar_cl, ar_oki, ar_okr, ar_nm, hw, hm, hj, c9, kq, if_true, if_false, ite_true, ite_false, not_true_eq_false, not_false_eq_true, true_or, or_true, false_or, or_false, and_self, ok_n0, ok_ni, ok_nr, ok_nl, va_rf_some, va_rf_none, true_and, and_true, List.length_nil, List.length_cons, Option.toList_some, Option.toList_none, List.cons_append, List.nil_append, rK_uA, rK_uI, rK_uJ, rK_uP, rP_uA, rP_uI, rP_uJ, rJ_uA, rJ_uI, rJ_uP, rI_uJ, rI_uP, rz_uA, rz_uI, rz_uJ, rz_uP, rs_uA, rs_uI, rs_uJ, rs_uP, Nat.reduceAdd, Nat.reduceMul, Nat.reduceSub, Nat.reduceLeDiff, Nat.reduceLT, Nat.reduceEqDiff, Nat.add_zero, Nat.zero_add, Nat.zero_le, decide_true, Bool.and_self, rI_uA, d1, uA_uA, bx4_0, bx4_1, bx4_2, bx4_3]
  exact hQ _ (eq4_bx _ _ _ _ _ _)
theorem s_findBox_full {h : pm_H} {d q : Nat} {C : Nat → Nat} {n cu s1 s2 w j i : Nat} (t : DS h d C n cu s1 s2) (kq : rK h q = (1, 0)) (hq : q < d ∨ d + 53 ≤ q) (hw : w < 60) (hm : rI h (d + 52) w = nI i) (hi : i < 9) (hs : lfind (rI h (d + 39 + 6)) (nI i) n 0 = nI j) (hj : j < 4) (hf : fhas (rJ h (d + 50) 0) (nI w) = false) (hk : rI h (d + 6 + 4 * i) 0 = nI 2) (Q : Option Value × pm_H → Prop) (hQ : ∀ g, eq4 g (rI h (d + 39 + 2 + j)) → Q (some (.int (nb (decide (ftil (rJ h (d + 50) 0) (rI h (d + 5 + 4 * i)) (C i) (lget (rI h (d + 5 + 4 * i)) (C i) (rI h (d + 3 + 4 * i) 1)) = nI w)))), uA h q g)) : pGo 24 0 [some (.ref d), some (.int (nI w)), some (.ref q), none, none, none, none] [] h Q := by
  obtain ⟨⟨k0, k1, k2, k3, k4, k5, k6, k7, k8, k9, k10, k11, k12, k13⟩, c, sc⟩ := id t
  obtain ⟨s0, s1', s2', s3, s4, -⟩ := k9
  obtain ⟨j1, j2, j3, j4, j5, j6⟩ := k7 i hi
  have c9 : ¬ nI 1 = nI 0 := by decide +kernel
  have d2 : ¬ d + 6 + 4 * i = q := by omega
  have d3 : ¬ d + 5 + 4 * i = q := by omega
  have d4 : ¬ d + 3 + 4 * i = q := by omega
  have k11' : ∀ g, FLT (uA h q g) (d + 50) (d + 51) := fun g => k11
  have hQ' := hQ (bx4 (rI h q) (rI h (d + 39 + 2 + j) 0) (rI h (d + 39 + 2 + j) 1) (rI h (d + 39 + 2 + j) 2) (rI h (d + 39 + 2 + j) 3)) ⟨bx4_0 _ _ _ _ _, bx4_1 _ _ _ _ _, bx4_2 _ _ _ _ _, bx4_3 _ _ _ _ _⟩
  simp (disch := omega) only [k24_0, k24_1, k24_2, k24_5, k24_8, k24_9, k24_10, k24_11, k24_14, k24_15, k24_16, k24_17, k24_18, k24_21, k24_22, k24_25, k24_27, k24_29, k24_30, k24_33, k24_34, k24_35, k24_36, k24_37, k24_40, k24_43, k24_45, k24_46, k24_49, k24_50, k24_53, k24_54, k24_57, k24_60, k24_61, k24_64, k24_65, k24_66, k24_69, k24_70, k24_71, k24_72, k24_75, k24_76, k24_77, k24_79, k24_80, k24_83, k24_84, k24_85, k24_88, k24_89, k24_92, k24_93, k24_95, k24_98, k24_99, k24_102, k24_103, k24_106, k24_107, k24_108, k24_109, k24_111, k24_113, k24_116, k24_117, k24_120, k24_123, k24_125, k24_126, k24_129, k24_130, k24_131, k24_132, k24_134, k24_135, k24_137, k24_139, k24_142, k24_145, k24_148, k24_151, k24_152, s_Desk_has t.1, s_Screens_screenOf sc, hs, nb_t, k0, k1, k2, k3, k4, k5 i hi, k6 i hi, k8, k10, k11.1, k12, k13, j1, j6, s0, s1', s2', s3 j hj, s4 j hj, s_Box_fill kq (s4 j hj), s_Floats_has (k11' _), hf, nb_f, s_fullTile (t.box hq _) hi, ar_le, ar_lt, ar_cl, ar_oki, ar_okr, ar_nm, hw, hm, hi, hj, hk, kq, c9, if_true, if_false, ite_true, ite_false, not_true_eq_false, not_false_eq_true, true_or, or_true, false_or, or_false, and_self, ok_n0, ok_ni, ok_nr, ok_nl, va_rf_some, va_rf_none, true_and, and_true, List.length_nil, List.length_cons, Option.toList_some, Option.toList_none, List.cons_append, List.nil_append, rK_uA, rK_uI, rK_uJ, rK_uP, rP_uA, rP_uI, rP_uJ, rJ_uA, rJ_uI, rJ_uP, rI_uJ, rI_uP, rz_uA, rz_uI, rz_uJ, rz_uP, rs_uA, rs_uI, rs_uJ, rs_uP, Nat.reduceAdd, Nat.reduceMul, Nat.reduceSub, Nat.reduceLeDiff, Nat.reduceLT, Nat.reduceEqDiff, Nat.add_zero, Nat.zero_add, Nat.zero_le, decide_true, Bool.and_self, rI_uA, d2, d3, d4]
  by_cases hx : ftil (rJ h (d + 50) 0) (rI h (d + 5 + 4 * i)) (C i) (lget (rI h (d + 5 + 4 * i)) (C i) (rI h (d + 3 + 4 * i) 1)) = nI w
  · simp only [hx, decide_true, nb_t, if_true, if_false, ite_true, ite_false, not_true_eq_false, not_false_eq_true, true_or, or_true, false_or, or_false, and_self, ok_n0, ok_ni, ok_nr, ok_nl, va_rf_some, va_rf_none, true_and, and_true, List.length_nil, List.length_cons, Option.toList_some, Option.toList_none, List.cons_append, List.nil_append, rK_uA, rK_uI, rK_uJ, rK_uP, rP_uA, rP_uI, rP_uJ, rJ_uA, rJ_uI, rJ_uP, rI_uJ, rI_uP, rz_uA, rz_uI, rz_uJ, rz_uP, rs_uA, rs_uI, rs_uJ, rs_uP, Nat.reduceAdd, Nat.reduceMul, Nat.reduceSub, Nat.reduceLeDiff, Nat.reduceLT, Nat.reduceEqDiff, Nat.add_zero, Nat.zero_add, Nat.zero_le] at hQ' ⊢
    exact hQ'
  · simp only [hx, decide_false, nb_f, if_true, if_false, ite_true, ite_false, not_true_eq_false, not_false_eq_true, true_or, or_true, false_or, or_false, and_self, ok_n0, ok_ni, ok_nr, ok_nl, va_rf_some, va_rf_none, true_and, and_true, List.length_nil, List.length_cons, Option.toList_some, Option.toList_none, List.cons_append, List.nil_append, rK_uA, rK_uI, rK_uJ, rK_uP, rP_uA, rP_uI, rP_uJ, rJ_uA, rJ_uI, rJ_uP, rI_uJ, rI_uP, rz_uA, rz_uI, rz_uJ, rz_uP, rs_uA, rs_uI, rs_uJ, rs_uP, Nat.reduceAdd, Nat.reduceMul, Nat.reduceSub, Nat.reduceLeDiff, Nat.reduceLT, Nat.reduceEqDiff, Nat.add_zero, Nat.zero_add, Nat.zero_le] at hQ' ⊢
    exact hQ'
theorem s_findBox_tile {h : pm_H} {d q : Nat} {C : Nat → Nat} {n cu s1 s2 w j i p : Nat} (t : DS h d C n cu s1 s2) (kq : rK h q = (1, 0)) (hq : q < d ∨ d + 53 ≤ q) (hw : w < 60) (hm : rI h (d + 52) w = nI i) (hi : i < 9) (hs : lfind (rI h (d + 39 + 6)) (nI i) n 0 = nI j) (hj : j < 4) (hf : fhas (rJ h (d + 50) 0) (nI w) = false) (hk : ¬ rI h (d + 6 + 4 * i) 0 = nI 2) (hp : lfind (rI h (d + 5 + 4 * i)) (nI w) (C i) 0 = nI p) (hpc : p < C i) (Q : Option Value × pm_H → Prop) (hQ : ∀ g, eq4 g (narB (rI h (d + 39 + 2 + j)) (rI h (d + 6 + 4 * i) 0) (rI h (d + 6 + 4 * i) 1) (rI h (d + 6 + 4 * i) 2) (tcnt (rJ h (d + 50) 0) (rI h (d + 5 + 4 * i)) p 0 0) (tcnt (rJ h (d + 50) 0) (rI h (d + 5 + 4 * i)) (C i) 0 0)) → Q (some (.int (nI 1)), uA h q g)) : pGo 24 0 [some (.ref d), some (.int (nI w)), some (.ref q), none, none, none, none] [] h Q := by
  obtain ⟨⟨k0, k1, k2, k3, k4, k5, k6, k7, k8, k9, k10, k11, k12, k13⟩, c, sc⟩ := id t
  obtain ⟨s0, s1', s2', s3, s4, -⟩ := k9
  obtain ⟨j1, j2, j3, j4, j5, j6⟩ := k7 i hi
  obtain ⟨hC, hC2⟩ := c i hi
  have c9 : ¬ nI 1 = nI 0 := by decide +kernel
  have d2 : ¬ d + 6 + 4 * i = q := by omega
  have d3 : ¬ d + 5 + 4 * i = q := by omega
  have d4 : ¬ d + 3 + 4 * i = q := by omega
  have d5 : ¬ d + 4 + 4 * i = q := by omega
  have k11' : ∀ g, FLT (uA h q g) (d + 50) (d + 51) := fun g => k11
  have kq' : ∀ g, rK (uA h q g) q = (1, 0) := fun g => kq
  have j6' : ∀ g, rK (uA h q g) (d + 6 + 4 * i) = (1, 4) := fun g => j6
  have b1 : tcnt (rJ h (d + 50) 0) (rI h (d + 5 + 4 * i)) p 0 0 < 60 := by have := tcnt_le (rJ h (d + 50) 0) (rI h (d + 5 + 4 * i)) p 0 0; omega
  have b2 : tcnt (rJ h (d + 50) 0) (rI h (d + 5 + 4 * i)) (C i) 0 0 ≤ 60 := by have := tcnt_le (rJ h (d + 50) 0) (rI h (d + 5 + 4 * i)) (C i) 0 0; omega
  simp (disch := omega) only [k24_0, k24_1, k24_2, k24_5, k24_8, k24_9, k24_10, k24_11, k24_14, k24_15, k24_16, k24_17, k24_18, k24_21, k24_22, k24_25, k24_27, k24_29, k24_30, k24_33, k24_34, k24_35, k24_36, k24_37, k24_40, k24_43, k24_45, k24_46, k24_49, k24_50, k24_53, k24_54, k24_57, k24_60, k24_61, k24_64, k24_65, k24_66, k24_69, k24_70, k24_71, k24_72, k24_75, k24_76, k24_77, k24_79, k24_80, k24_83, k24_84, k24_85, k24_88, k24_89, k24_92, k24_93, k24_95, k24_98, k24_99, k24_102, k24_103, k24_106, k24_107, k24_108, k24_109, k24_111, k24_113, k24_116, k24_117, k24_120, k24_123, k24_125, k24_126, k24_129, k24_130, k24_131, k24_132, k24_134, k24_135, k24_137, k24_139, k24_142, k24_145, k24_148, k24_151, k24_152, s_Desk_has t.1, s_Screens_screenOf sc, hs, nb_t, k0, k1, k2, k3, k4, k5 i hi, k6 i hi, k8, k10, k11.1, k12, k13, j1, j2, j3, j6, s0, s1', s2', s3 j hj, s4 j hj, s_Box_fill kq (s4 j hj), s_Floats_has (k11' _), hf, nb_f, s_Line_find ((t.box hq _).row hi).2.2.1, hp, s_tilesAhead (t.box hq _) hi (Nat.le_of_lt hpc), s_tilesAhead (t.box hq _) hi (Nat.le_refl _), s_Layout_narrow (j6' _) (kq' _) d2 b1 b2, hC, ar_le, ar_lt, ar_cl, ar_oki, ar_okr, ar_nm, hw, hm, hi, hj, hk, kq, c9, if_true, if_false, ite_true, ite_false, not_true_eq_false, not_false_eq_true, true_or, or_true, false_or, or_false, and_self, ok_n0, ok_ni, ok_nr, ok_nl, va_rf_some, va_rf_none, true_and, and_true, List.length_nil, List.length_cons, Option.toList_some, Option.toList_none, List.cons_append, List.nil_append, rK_uA, rK_uI, rK_uJ, rK_uP, rP_uA, rP_uI, rP_uJ, rJ_uA, rJ_uI, rJ_uP, rI_uJ, rI_uP, rz_uA, rz_uI, rz_uJ, rz_uP, rs_uA, rs_uI, rs_uJ, rs_uP, Nat.reduceAdd, Nat.reduceMul, Nat.reduceSub, Nat.reduceLeDiff, Nat.reduceLT, Nat.reduceEqDiff, Nat.add_zero, Nat.zero_add, Nat.zero_le, decide_true, Bool.and_self, rI_uA, d2, d3, d4, d5, uA_uA]
  refine hQ _ (eq4_narB ⟨bx4_0 _ _ _ _ _, bx4_1 _ _ _ _ _, bx4_2 _ _ _ _ _, bx4_3 _ _ _ _ _⟩ _ _ _ _ _)
