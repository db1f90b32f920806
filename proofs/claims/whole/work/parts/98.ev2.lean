/-! EVENTS, 2 -/
section EVS2
variable {h : pm_H} {X hd un wt d B F : Nat} {V : Nat → Nat → Int32} {W : Nat → Int32} {Sl : Nat → Option Nat}
variable {v v' : Nat → Int32} {n c n' c' : Nat} {p lo r rl C H P p' lo' r' rl' C' H' P' : Nat → Nat}
theorem now_mv (N : MR h (X + 115) hd un V wt W) : ∃ v0, MV h (X + 115) (980 * hd) v0 ∧ ∀ e, e < 980 → v0 e = bV (rI h (X + 115 + 1)) hd e := by
  have h40 := N.h40
  exact ⟨fun e => rI h (X + 115 + 1) (980 * hd + e), ⟨N.k, N.m3, by omega, fun e => rfl⟩, fun e he => by rw [bV_eq N he]; exact N.vv hd e (by omega) he⟩
theorem e_focus (R : XR h X hd un V wt W d B F Sl) (N : MR h (X + 115) hd un V wt W) (a : Int32) : EV X h 93 [some (.ref X), some (.int a)] 146 [some (.ref (X + 115)), some (.int a)] := by
  obtain ⟨n, c, p, lo, r, rl, C, H, P, s, q, t⟩ := rel_v R N
  obtain ⟨v0, T0, e0⟩ := now_mv N
  generalize hvb : bV (rI h (X + 115 + 1)) hd = v at s q t e0
  have kX := R.xk.1
  have dk := t.k.1
  cases ht : thereV v a with
  | false =>
    refine ev_no (nI 0) R N (fun Q => ?_) (fun Q => ?_)
    · simp only [k93_0, k93_1, k93_4, k93_5, k93_8, k93_11, k93_12, k93_13, k93_14, k93_17, k93_18, k93_21, k93_22, k93_25, k93_26, k93_29, has_dv t q, ht, if_true, if_false, ite_true, ite_false, not_true_eq_false, not_false_eq_true, true_or, or_true, false_or, or_false, and_self, ok_n0, ok_ni, ok_nr, ok_nl, va_rf_some, va_rf_none, true_and, and_true, List.length_nil, List.length_cons, Option.toList_some, Option.toList_none, List.cons_append, List.nil_append, rK_uA, rK_uI, rK_uJ, rK_uP, rP_uA, rP_uI, rP_uJ, rJ_uA, rJ_uI, rJ_uP, rI_uJ, rI_uP, rz_uA, rz_uI, rz_uJ, rz_uP, rs_uA, rs_uI, rs_uJ, rs_uP, Nat.reduceAdd, Nat.reduceMul, Nat.reduceSub, Nat.reduceLeDiff, Nat.reduceLT, Nat.reduceEqDiff, Nat.add_zero, Nat.zero_add, Nat.zero_le, nb_f, kX, R.pd, dk]
    · simp only [k146_0, k146_1, k146_2, k146_5, k146_8, k146_9, k146_10, k146_11, k146_14, k146_15, k146_16, k146_19, k146_20, k146_23, s_isThere T0, there_cg e0, ht, if_true, if_false, ite_true, ite_false, not_true_eq_false, not_false_eq_true, true_or, or_true, false_or, or_false, and_self, ok_n0, ok_ni, ok_nr, ok_nl, va_rf_some, va_rf_none, true_and, and_true, List.length_nil, List.length_cons, Option.toList_some, Option.toList_none, List.cons_append, List.nil_append, rK_uA, rK_uI, rK_uJ, rK_uP, rP_uA, rP_uI, rP_uJ, rJ_uA, rJ_uI, rJ_uP, rI_uJ, rI_uP, rz_uA, rz_uI, rz_uJ, rz_uP, rs_uA, rs_uI, rs_uJ, rs_uP, Nat.reduceAdd, Nat.reduceMul, Nat.reduceSub, Nat.reduceLeDiff, Nat.reduceLT, Nat.reduceEqDiff, Nat.add_zero, Nat.zero_add, Nat.zero_le, nb_f, T0.1.1]
  | true =>
    obtain ⟨w, hw, rfl, hw1⟩ := there_y ht
    obtain ⟨v', c', p', lo', r', rl', P', s', q', mm, dd⟩ := turn_all s q hw hw1
    refine evU (fun x => x) R N hvb.symm s q t s' q' (fun h1 eb t1 f1 => ?_) (fun h3 hb v0 T0 e0 T Bg h6 x E Q => ?_)
    · obtain ⟨h2, x2, t2, f2⟩ := dd h1 d t1
      refine ⟨h2, t2, f2, fun h3 x E Q => ?_⟩
      simp only [k93_0, k93_1, k93_4, k93_5, k93_8, k93_11, k93_12, k93_13, k93_14, k93_17, k93_18, k93_21, k93_22, k93_25, k93_26, k93_29, has_dv t q, ht, eb, x2, E, nb_ok, if_true, if_false, ite_true, ite_false, not_true_eq_false, not_false_eq_true, true_or, or_true, false_or, or_false, and_self, ok_n0, ok_ni, ok_nr, ok_nl, va_rf_some, va_rf_none, true_and, and_true, List.length_nil, List.length_cons, Option.toList_some, Option.toList_none, List.cons_append, List.nil_append, rK_uA, rK_uI, rK_uJ, rK_uP, rP_uA, rP_uI, rP_uJ, rJ_uA, rJ_uI, rJ_uP, rI_uJ, rI_uP, rz_uA, rz_uI, rz_uJ, rz_uP, rs_uA, rs_uI, rs_uJ, rs_uP, Nat.reduceAdd, Nat.reduceMul, Nat.reduceSub, Nat.reduceLeDiff, Nat.reduceLT, Nat.reduceEqDiff, Nat.add_zero, Nat.zero_add, Nat.zero_le, nb_t, n1_0, kX, R.pd, dk, f1.fk, f1.fp, f2.fk, f2.fp]
    · have m1 := mm hb (X + 115) 40180 T
      simp only [k146_0, k146_1, k146_2, k146_5, k146_8, k146_9, k146_10, k146_11, k146_14, k146_15, k146_16, k146_19, k146_20, k146_23, s_isThere T0, there_cg e0, ht, Bg, m1, E, nb_ok, if_true, if_false, ite_true, ite_false, not_true_eq_false, not_false_eq_true, true_or, or_true, false_or, or_false, and_self, ok_n0, ok_ni, ok_nr, ok_nl, va_rf_some, va_rf_none, true_and, and_true, List.length_nil, List.length_cons, Option.toList_some, Option.toList_none, List.cons_append, List.nil_append, rK_uA, rK_uI, rK_uJ, rK_uP, rP_uA, rP_uI, rP_uJ, rJ_uA, rJ_uI, rJ_uP, rI_uJ, rI_uP, rz_uA, rz_uI, rz_uJ, rz_uP, rs_uA, rs_uI, rs_uJ, rs_uP, Nat.reduceAdd, Nat.reduceMul, Nat.reduceSub, Nat.reduceLeDiff, Nat.reduceLT, Nat.reduceEqDiff, Nat.add_zero, Nat.zero_add, Nat.zero_le, nb_t, n1_0, T0.1.1, T.1.1, rK_HM]
theorem e_shift (R : XR h X hd un V wt W d B F Sl) (N : MR h (X + 115) hd un V wt W) (b : Int32) : EV X h 91 [some (.ref X), some (.int b)] 144 [some (.ref (X + 115)), some (.int b), none] := by
  obtain ⟨n, c, p, lo, r, rl, C, H, P, s, q, t⟩ := rel_v R N
  obtain ⟨v0, T0, e0⟩ := now_mv N
  generalize hvb : bV (rI h (X + 115 + 1)) hd = v at s q t e0
  have kX := R.xk.1
  have dk := t.k.1
  have ds := t.ds s q
  have pc := (s.pj s.cn).1
  have n4 := s.n4
  have cn := s.cn
  have s0 : SI v0 n c p lo r rl := s.cg (fun e he => e0 e (by omega))
  have q0 : RI v0 C H P := q.cg (fun e _ he => e0 e he)
  have xr := s_Desk_currentRow ds (i := p c) ((t.ws c cn).trans (s.sh c cn)) pc
  have xf := s_Row_focused (ds.row pc)
  rw [q.get_foc t pc] at xf
  have kr : rK h (d + 3 + 4 * p c) = (1, 6) := (t.k.2.2.2.2.2.2.2.1 _ pc).1
  have cs : ∀ Q, pGo 129 0 [some (.ref (X + 115))] [] h Q = Q (some (.int (nI (p c))), h) := fun Q => by rw [s_currentSpace T0 s0.v1 (by omega), s0.sh c cn]
  have fo0 := s_focusOf T0 pc (q0.foh pc)
  have ef : focV v0 (p c) = focV v (p c) := by
    have := q.c60 _ pc
    simp only [focV]
    rw [e0 _ (by omega)]
    rcases q.fo _ pc with ⟨_, z⟩ | ⟨f, z1, z2⟩
    · rw [z, if_pos (by decide +kernel), if_pos (by decide +kernel)]
    · rw [z2, ar_cl (by omega), e0 _ (by omega)]
  rw [ef] at fo0
  rcases q.foc pc with ⟨z0, z1, z2⟩ | ⟨f, z1, z2, z3⟩
  · refine ev_no (nI 0) R N (fun Q => ?_) (fun Q => ?_)
    · have hn : thereV v (-1) = false := by
        simp only [thereV, show ¬ nI 0 ≤ (-1 : Int32) by decide +kernel, false_and, decide_false, Bool.false_and]
      simp only [k91_0, k91_1, k91_2, k91_5, k91_8, k91_11, k91_12, k91_15, k92_0, k92_1, k92_4, k92_5, k92_8, k92_11, k92_12, k92_15, k92_18, k92_19, k92_20, k92_21, k92_24, k92_25, k92_28, k92_29, k92_30, k92_33, k92_34, k92_37, xr, xf, z2, has_dv t q, hn, if_true, if_false, ite_true, ite_false, not_true_eq_false, not_false_eq_true, true_or, or_true, false_or, or_false, and_self, ok_n0, ok_ni, ok_nr, ok_nl, va_rf_some, va_rf_none, true_and, and_true, List.length_nil, List.length_cons, Option.toList_some, Option.toList_none, List.cons_append, List.nil_append, rK_uA, rK_uI, rK_uJ, rK_uP, rP_uA, rP_uI, rP_uJ, rJ_uA, rJ_uI, rJ_uP, rI_uJ, rI_uP, rz_uA, rz_uI, rz_uJ, rz_uP, rs_uA, rs_uI, rs_uJ, rs_uP, Nat.reduceAdd, Nat.reduceMul, Nat.reduceSub, Nat.reduceLeDiff, Nat.reduceLT, Nat.reduceEqDiff, Nat.add_zero, Nat.zero_add, Nat.zero_le, nb_f, kX, R.pd, dk, kr]
    · simp only [k144_0, k144_1, k144_2, k144_5, k144_8, k144_9, k144_10, k144_13, k144_14, k144_16, k144_19, k144_22, k144_23, k144_24, k144_25, k144_28, k144_29, k144_30, k144_31, k144_34, k144_35, k144_38, cs, fo0, z2, show (-1 : Int32) < nI 0 by decide +kernel, if_true, if_false, ite_true, ite_false, not_true_eq_false, not_false_eq_true, true_or, or_true, false_or, or_false, and_self, ok_n0, ok_ni, ok_nr, ok_nl, va_rf_some, va_rf_none, true_and, and_true, List.length_nil, List.length_cons, Option.toList_some, Option.toList_none, List.cons_append, List.nil_append, rK_uA, rK_uI, rK_uJ, rK_uP, rP_uA, rP_uI, rP_uJ, rJ_uA, rJ_uI, rJ_uP, rI_uJ, rI_uP, rz_uA, rz_uI, rz_uJ, rz_uP, rs_uA, rs_uI, rs_uJ, rs_uP, Nat.reduceAdd, Nat.reduceMul, Nat.reduceSub, Nat.reduceLeDiff, Nat.reduceLT, Nat.reduceEqDiff, Nat.add_zero, Nat.zero_add, Nat.zero_le, T0.1.1]
  · obtain ⟨o1, o2, o3, -⟩ := q.od _ f pc z1
    have hlt : ¬ nI (wV v (p c) f) < nI 0 := by rw [ar_lt (by omega) (by omega)]; omega
    have ht : thereV v (nI (wV v (p c) f)) = true := by
      simp only [thereV, ar_cl (show wV v (p c) f < 2147483648 by omega), o3, decide_true, Bool.and_true, decide_eq_true_eq]
      rw [ar_le (by omega) (by omega), ar_lt (by omega) (by omega)]; omega
    rcases isin_cases b (n := 9) (by omega) with ⟨z, -⟩ | ⟨j, hj, rfl, z⟩
    · refine ev_no (nI 0) R N (fun Q => ?_) (fun Q => ?_)
      · simp only [k91_0, k91_1, k91_2, k91_5, k91_8, k91_11, k91_12, k91_15, k92_0, k92_1, k92_4, k92_5, k92_8, k92_11, k92_12, k92_15, k92_18, k92_19, k92_20, k92_21, k92_24, k92_25, k92_28, k92_29, k92_30, k92_33, k92_34, k92_37, xr, xf, z3, has_dv t q, ht, s_isWs, z, if_true, if_false, ite_true, ite_false, not_true_eq_false, not_false_eq_true, true_or, or_true, false_or, or_false, and_self, ok_n0, ok_ni, ok_nr, ok_nl, va_rf_some, va_rf_none, true_and, and_true, List.length_nil, List.length_cons, Option.toList_some, Option.toList_none, List.cons_append, List.nil_append, rK_uA, rK_uI, rK_uJ, rK_uP, rP_uA, rP_uI, rP_uJ, rJ_uA, rJ_uI, rJ_uP, rI_uJ, rI_uP, rz_uA, rz_uI, rz_uJ, rz_uP, rs_uA, rs_uI, rs_uJ, rs_uP, Nat.reduceAdd, Nat.reduceMul, Nat.reduceSub, Nat.reduceLeDiff, Nat.reduceLT, Nat.reduceEqDiff, Nat.add_zero, Nat.zero_add, Nat.zero_le, nb_f, nb_t, n1_0, decide_false, kX, R.pd, dk, kr]
      · simp (disch := omega) only [k144_0, k144_1, k144_2, k144_5, k144_8, k144_9, k144_10, k144_13, k144_14, k144_16, k144_19, k144_22, k144_23, k144_24, k144_25, k144_28, k144_29, k144_30, k144_31, k144_34, k144_35, k144_38, cs, fo0, z3, hlt, s_isIn, z, if_true, if_false, ite_true, ite_false, not_true_eq_false, not_false_eq_true, true_or, or_true, false_or, or_false, and_self, ok_n0, ok_ni, ok_nr, ok_nl, va_rf_some, va_rf_none, true_and, and_true, List.length_nil, List.length_cons, Option.toList_some, Option.toList_none, List.cons_append, List.nil_append, rK_uA, rK_uI, rK_uJ, rK_uP, rP_uA, rP_uI, rP_uJ, rJ_uA, rJ_uI, rJ_uP, rI_uJ, rI_uP, rz_uA, rz_uI, rz_uJ, rz_uP, rs_uA, rs_uI, rs_uJ, rs_uP, Nat.reduceAdd, Nat.reduceMul, Nat.reduceSub, Nat.reduceLeDiff, Nat.reduceLT, Nat.reduceEqDiff, Nat.add_zero, Nat.zero_add, Nat.zero_le, decide_false, nb_f, T0.1.1]
    · by_cases hne : H (wV v (p c) f) = j
      · refine evU (v' := v) (fun x => x) R N hvb.symm s q t s q (fun h1 eb t1 f1 => ⟨h1, t1, FRD.rf _ _ _, fun h3 x E Q => ?_⟩) (fun h3 hb v1 T1 e1 T Bg h6 x E Q => ?_)
        · have hom := t1.hom _ o1
          rw [if_pos o3, hne] at hom
          simp (disch := omega) only [k91_0, k91_1, k91_2, k91_5, k91_8, k91_11, k91_12, k91_15, k92_0, k92_1, k92_4, k92_5, k92_8, k92_11, k92_12, k92_15, k92_18, k92_19, k92_20, k92_21, k92_24, k92_25, k92_28, k92_29, k92_30, k92_33, k92_34, k92_37, k20_0, k20_1, k20_4, k20_5, k20_6, k20_7, k20_8, k20_9, k20_12, k20_13, k20_14, k20_17, k20_20, k20_22, k20_23, k20_26, k20_27, k20_30, k20_31, k20_32, k20_35, k20_36, k20_39, k20_41, k20_44, k20_45, k20_48, k20_49, k20_52, k20_53, k20_54, k20_55, k20_58, k20_59, k20_62, k20_64, k20_67, xr, xf, z3, has_dv t q, ht, s_isWs, z, eb, hom, E, nb_ok, if_true, if_false, ite_true, ite_false, not_true_eq_false, not_false_eq_true, true_or, or_true, false_or, or_false, and_self, ok_n0, ok_ni, ok_nr, ok_nl, va_rf_some, va_rf_none, true_and, and_true, List.length_nil, List.length_cons, Option.toList_some, Option.toList_none, List.cons_append, List.nil_append, rK_uA, rK_uI, rK_uJ, rK_uP, rP_uA, rP_uI, rP_uJ, rJ_uA, rJ_uI, rJ_uP, rI_uJ, rI_uP, rz_uA, rz_uI, rz_uJ, rz_uP, rs_uA, rs_uI, rs_uJ, rs_uP, Nat.reduceAdd, Nat.reduceMul, Nat.reduceSub, Nat.reduceLeDiff, Nat.reduceLT, Nat.reduceEqDiff, Nat.add_zero, Nat.zero_add, Nat.zero_le, nb_t, n1_0, decide_true, kX, R.pd, dk, kr, t.k.2.2.2.2.2.2.2.2.2.2.2.2.1, t.k.2.2.2.2.2.2.2.2.2.2.2.2.2, f1.fk, f1.fp, ar_oki, ar_cl, o1]
        · have s1 : SI v1 n c p lo r rl := s.cg (fun e he => e1 e (by omega))
          have q1 : RI v1 C H P := q.cg (fun e _ he => e1 e he)
          have cs1 : ∀ Q, pGo 129 0 [some (.ref (X + 115))] [] h3 Q = Q (some (.int (nI (p c))), h3) := fun Q => by rw [s_currentSpace T1 s1.v1 (by omega), s1.sh c cn]
          have fo1 := s_focusOf T1 pc (q1.foh pc)
          have ef1 : focV v1 (p c) = focV v (p c) := by
            have := q.c60 _ pc
            simp only [focV]
            rw [e1 _ (by omega), z2, ar_cl (by omega), e1 _ (by omega)]
          rw [ef1, z3] at fo1
          have ho := s_homeOf T q.ct q.c60 (nI (wV v (p c) f))
          rw [q.hom_y o1 o3, hne] at ho
          rw [← HM_of T.2.2.2] at E
          simp (disch := omega) only [k144_0, k144_1, k144_2, k144_5, k144_8, k144_9, k144_10, k144_13, k144_14, k144_16, k144_19, k144_22, k144_23, k144_24, k144_25, k144_28, k144_29, k144_30, k144_31, k144_34, k144_35, k144_38, k137_0, k137_1, k137_2, k137_5, k137_6, k137_7, k137_8, k137_11, k137_12, k137_13, k137_16, k137_18, k137_19, k137_20, k137_21, k137_24, k137_25, k137_26, k137_27, k137_30, k137_31, k137_33, k137_34, k137_37, k137_38, k137_39, k137_40, k137_43, k137_44, k137_45, k137_46, k137_49, k137_50, k137_52, k137_53, k137_56, cs1, fo1, hlt, s_isIn, z, Bg, ho, E, nb_ok, if_true, if_false, ite_true, ite_false, not_true_eq_false, not_false_eq_true, true_or, or_true, false_or, or_false, and_self, ok_n0, ok_ni, ok_nr, ok_nl, va_rf_some, va_rf_none, true_and, and_true, List.length_nil, List.length_cons, Option.toList_some, Option.toList_none, List.cons_append, List.nil_append, rK_uA, rK_uI, rK_uJ, rK_uP, rP_uA, rP_uI, rP_uJ, rJ_uA, rJ_uI, rJ_uP, rI_uJ, rI_uP, rz_uA, rz_uI, rz_uJ, rz_uP, rs_uA, rs_uI, rs_uJ, rs_uP, Nat.reduceAdd, Nat.reduceMul, Nat.reduceSub, Nat.reduceLeDiff, Nat.reduceLT, Nat.reduceEqDiff, Nat.add_zero, Nat.zero_add, Nat.zero_le, nb_t, n1_0, decide_true, T1.1.1, T.1.1]
      · obtain ⟨v', c', p', lo', r', rl', C', H', P', s', q', mm, dd⟩ := carry_all s q o1 o3 hj hne
        refine evU (fun x => x) R N hvb.symm s q t s' q' (fun h1 eb t1 f1 => ?_) (fun h3 hb v1 T1 e1 T Bg h6 x E Q => ?_)
        · obtain ⟨h2, x2, t2, f2⟩ := dd h1 d t1
          refine ⟨h2, t2, f2, fun h3 x E Q => ?_⟩
          simp only [k91_0, k91_1, k91_2, k91_5, k91_8, k91_11, k91_12, k91_15, k92_0, k92_1, k92_4, k92_5, k92_8, k92_11, k92_12, k92_15, k92_18, k92_19, k92_20, k92_21, k92_24, k92_25, k92_28, k92_29, k92_30, k92_33, k92_34, k92_37, xr, xf, z3, has_dv t q, ht, s_isWs, z, eb, x2, E, nb_ok, if_true, if_false, ite_true, ite_false, not_true_eq_false, not_false_eq_true, true_or, or_true, false_or, or_false, and_self, ok_n0, ok_ni, ok_nr, ok_nl, va_rf_some, va_rf_none, true_and, and_true, List.length_nil, List.length_cons, Option.toList_some, Option.toList_none, List.cons_append, List.nil_append, rK_uA, rK_uI, rK_uJ, rK_uP, rP_uA, rP_uI, rP_uJ, rJ_uA, rJ_uI, rJ_uP, rI_uJ, rI_uP, rz_uA, rz_uI, rz_uJ, rz_uP, rs_uA, rs_uI, rs_uJ, rs_uP, Nat.reduceAdd, Nat.reduceMul, Nat.reduceSub, Nat.reduceLeDiff, Nat.reduceLT, Nat.reduceEqDiff, Nat.add_zero, Nat.zero_add, Nat.zero_le, nb_t, n1_0, decide_true, kX, R.pd, dk, kr, f1.fk, f1.fp, f2.fk, f2.fp]
        · have s1 : SI v1 n c p lo r rl := s.cg (fun e he => e1 e (by omega))
          have q1 : RI v1 C H P := q.cg (fun e _ he => e1 e he)
          have cs1 : ∀ Q, pGo 129 0 [some (.ref (X + 115))] [] h3 Q = Q (some (.int (nI (p c))), h3) := fun Q => by rw [s_currentSpace T1 s1.v1 (by omega), s1.sh c cn]
          have fo1 := s_focusOf T1 pc (q1.foh pc)
          have ef1 : focV v1 (p c) = focV v (p c) := by
            have := q.c60 _ pc
            simp only [focV]
            rw [e1 _ (by omega), z2, ar_cl (by omega), e1 _ (by omega)]
          rw [ef1, z3] at fo1
          have m1 := mm hb (X + 115) 40180 T
          simp (disch := omega) only [k144_0, k144_1, k144_2, k144_5, k144_8, k144_9, k144_10, k144_13, k144_14, k144_16, k144_19, k144_22, k144_23, k144_24, k144_25, k144_28, k144_29, k144_30, k144_31, k144_34, k144_35, k144_38, cs1, fo1, hlt, s_isIn, z, Bg, m1, E, nb_ok, if_true, if_false, ite_true, ite_false, not_true_eq_false, not_false_eq_true, true_or, or_true, false_or, or_false, and_self, ok_n0, ok_ni, ok_nr, ok_nl, va_rf_some, va_rf_none, true_and, and_true, List.length_nil, List.length_cons, Option.toList_some, Option.toList_none, List.cons_append, List.nil_append, rK_uA, rK_uI, rK_uJ, rK_uP, rP_uA, rP_uI, rP_uJ, rJ_uA, rJ_uI, rJ_uP, rI_uJ, rI_uP, rz_uA, rz_uI, rz_uJ, rz_uP, rs_uA, rs_uI, rs_uJ, rs_uP, Nat.reduceAdd, Nat.reduceMul, Nat.reduceSub, Nat.reduceLeDiff, Nat.reduceLT, Nat.reduceEqDiff, Nat.add_zero, Nat.zero_add, Nat.zero_le, nb_t, n1_0, decide_true, T1.1.1, T.1.1, rK_HM]
/-! floats -/
theorem snk_at (v : Nat → Int32) (w e : Nat) : snkV v w e = if 620 + 6 * w + 1 ≤ e ∧ e < 620 + 6 * w + 6 then nI 0 else v e := by
  simp only [snkV, upd_at]
  by_cases h : 620 + 6 * w + 1 ≤ e ∧ e < 620 + 6 * w + 6
  · rw [if_pos h]
    rcases (show e = 620 + 6 * w + 1 ∨ e = 620 + 6 * w + 2 ∨ e = 620 + 6 * w + 3 ∨ e = 620 + 6 * w + 4 ∨ e = 620 + 6 * w + 5 by omega) with z | z | z | z | z
    · rw [if_neg (by omega), if_neg (by omega), if_neg (by omega), if_neg (by omega), if_pos z]
    · rw [if_neg (by omega), if_neg (by omega), if_neg (by omega), if_pos z]
    · rw [if_neg (by omega), if_neg (by omega), if_pos z]
    · rw [if_neg (by omega), if_pos z]
    · rw [if_pos z]
  · rw [if_neg h, if_neg (by omega), if_neg (by omega), if_neg (by omega), if_neg (by omega), if_neg (by omega)]
theorem drop_dv {h1 : pm_H} (t1 : DV h1 d v n C H) (hn : n ≤ 4) (c60 : ∀ k, k < 9 → C k ≤ 60) {w : Nat} (hw : w < 60) : ∃ h2, (∀ Q, pGo 35 0 [some (.ref (d + 50)), some (.int (nI w))] [] h1 Q = Q (none, h2)) ∧ DV h2 d (snkV v w) n C H ∧ FRD d (d + 53) h1 h2 := by
  refine ⟨_, fun Q => s_Floats_drop t1.k.2.2.2.2.2.2.2.2.2.2.2.1 hw Q, t1.flt (y := nI 0) hw hn (fun j => ?_) (fun e he => by rw [snk_at, if_neg (by omega)]) (by rw [snk_at, if_pos (by omega)]) (by rw [snk_at, if_pos (by omega)]) (by rw [snk_at, if_pos (by omega)]) (by rw [snk_at, if_pos (by omega)]) (by rw [snk_at, if_pos (by omega)]) c60, (FRD.uJ _ (by omega) (by omega) _ _).tr (FRD.uA _ (by omega) (by omega) _)⟩
  rw [fclr_g _ hw, fset_g _ hw]
  by_cases e : j = w
  · simp [e, n0_1]
  · simp [e]
theorem e_sink (R : XR h X hd un V wt W d B F Sl) (N : MR h (X + 115) hd un V wt W) (a : Int32) : EV X h 96 [some (.ref X), some (.int a)] 150 [some (.ref (X + 115)), some (.int a)] := by
  obtain ⟨n, c, p, lo, r, rl, C, H, P, s, q, t⟩ := rel_v R N
  obtain ⟨v0, T0, e0⟩ := now_mv N
  generalize hvb : bV (rI h (X + 115 + 1)) hd = v at s q t e0
  have kX := R.xk.1
  have dk := t.k.1
  cases ht : thereV v a with
  | false =>
    refine ev_no (nI 0) R N (fun Q => ?_) (fun Q => ?_)
    · simp only [k96_0, k96_1, k96_4, k96_5, k96_8, k96_11, k96_12, k96_13, k96_14, k96_17, k96_18, k96_21, k96_24, k96_25, k96_28, k96_29, k96_32, has_dv t q, ht, if_true, if_false, ite_true, ite_false, not_true_eq_false, not_false_eq_true, true_or, or_true, false_or, or_false, and_self, ok_n0, ok_ni, ok_nr, ok_nl, va_rf_some, va_rf_none, true_and, and_true, List.length_nil, List.length_cons, Option.toList_some, Option.toList_none, List.cons_append, List.nil_append, rK_uA, rK_uI, rK_uJ, rK_uP, rP_uA, rP_uI, rP_uJ, rJ_uA, rJ_uI, rJ_uP, rI_uJ, rI_uP, rz_uA, rz_uI, rz_uJ, rz_uP, rs_uA, rs_uI, rs_uJ, rs_uP, Nat.reduceAdd, Nat.reduceMul, Nat.reduceSub, Nat.reduceLeDiff, Nat.reduceLT, Nat.reduceEqDiff, Nat.add_zero, Nat.zero_add, Nat.zero_le, nb_f, kX, R.pd, dk]
    · simp only [k150_0, k150_1, k150_2, k150_5, k150_8, k150_9, k150_10, k150_11, k150_14, k150_15, k150_16, k150_19, k150_20, k150_23, s_isThere T0, there_cg e0, ht, if_true, if_false, ite_true, ite_false, not_true_eq_false, not_false_eq_true, true_or, or_true, false_or, or_false, and_self, ok_n0, ok_ni, ok_nr, ok_nl, va_rf_some, va_rf_none, true_and, and_true, List.length_nil, List.length_cons, Option.toList_some, Option.toList_none, List.cons_append, List.nil_append, rK_uA, rK_uI, rK_uJ, rK_uP, rP_uA, rP_uI, rP_uJ, rJ_uA, rJ_uI, rJ_uP, rI_uJ, rI_uP, rz_uA, rz_uI, rz_uJ, rz_uP, rs_uA, rs_uI, rs_uJ, rs_uP, Nat.reduceAdd, Nat.reduceMul, Nat.reduceSub, Nat.reduceLeDiff, Nat.reduceLT, Nat.reduceEqDiff, Nat.add_zero, Nat.zero_add, Nat.zero_le, nb_f, T0.1.1]
  | true =>
    obtain ⟨w, hw, rfl, hw1⟩ := there_y ht
    have s' : SI (snkV v w) n c p lo r rl := s.cg (fun e he => by rw [snk_at, if_neg (by omega)])
    have q' : RI (snkV v w) C H P := q.set5 hw hw1 (fun e _ _ h3 => by rw [snk_at, if_neg (by omega)]) (Or.inl ⟨by rw [snk_at, if_pos (by omega)], fun c hc => by rw [snk_at, if_pos (by omega)]⟩) (fun c hc => ⟨0, by omega, by rw [snk_at, if_pos (by omega)]⟩)
    refine evU (fun x => x) R N hvb.symm s q t s' q' (fun h1 eb t1 f1 => ?_) (fun h3 hb v0 T0 e0 T Bg h6 x E Q => ?_)
    · obtain ⟨h2, x2, t2, f2⟩ := drop_dv t1 s.n4 q.c60 hw
      refine ⟨h2, t2, f2, fun h3 x E Q => ?_⟩
      simp only [k96_0, k96_1, k96_4, k96_5, k96_8, k96_11, k96_12, k96_13, k96_14, k96_17, k96_18, k96_21, k96_24, k96_25, k96_28, k96_29, k96_32, has_dv t q, ht, eb, x2, E, nb_ok, if_true, if_false, ite_true, ite_false, not_true_eq_false, not_false_eq_true, true_or, or_true, false_or, or_false, and_self, ok_n0, ok_ni, ok_nr, ok_nl, va_rf_some, va_rf_none, true_and, and_true, List.length_nil, List.length_cons, Option.toList_some, Option.toList_none, List.cons_append, List.nil_append, rK_uA, rK_uI, rK_uJ, rK_uP, rP_uA, rP_uI, rP_uJ, rJ_uA, rJ_uI, rJ_uP, rI_uJ, rI_uP, rz_uA, rz_uI, rz_uJ, rz_uP, rs_uA, rs_uI, rs_uJ, rs_uP, Nat.reduceAdd, Nat.reduceMul, Nat.reduceSub, Nat.reduceLeDiff, Nat.reduceLT, Nat.reduceEqDiff, Nat.add_zero, Nat.zero_add, Nat.zero_le, nb_t, n1_0, kX, R.pd, dk, t.k.2.2.2.2.2.2.2.2.2.2.1, t.k.2.2.2.2.2.2.2.2.2.2.2.1.1, f1.fk, f1.fp, f2.fk, f2.fp]
    · have m1 := s_sinks T hw
      simp only [k150_0, k150_1, k150_2, k150_5, k150_8, k150_9, k150_10, k150_11, k150_14, k150_15, k150_16, k150_19, k150_20, k150_23, s_isThere T0, there_cg e0, ht, Bg, m1, E, nb_ok, if_true, if_false, ite_true, ite_false, not_true_eq_false, not_false_eq_true, true_or, or_true, false_or, or_false, and_self, ok_n0, ok_ni, ok_nr, ok_nl, va_rf_some, va_rf_none, true_and, and_true, List.length_nil, List.length_cons, Option.toList_some, Option.toList_none, List.cons_append, List.nil_append, rK_uA, rK_uI, rK_uJ, rK_uP, rP_uA, rP_uI, rP_uJ, rJ_uA, rJ_uI, rJ_uP, rI_uJ, rI_uP, rz_uA, rz_uI, rz_uJ, rz_uP, rs_uA, rs_uI, rs_uJ, rs_uP, Nat.reduceAdd, Nat.reduceMul, Nat.reduceSub, Nat.reduceLeDiff, Nat.reduceLT, Nat.reduceEqDiff, Nat.add_zero, Nat.zero_add, Nat.zero_le, nb_t, n1_0, T0.1.1, T.1.1, rK_HM]
theorem s_isShare (x : Int32) (h : pm_H) (Q : Option Value × pm_H → Prop) : pGo 115 0 [some (.int x)] [] h Q = Q (some (.int (nb (decide (nI 0 ≤ x ∧ x ≤ nI 1000)))), h) := by
  have e1 : x < nI 0 ↔ ¬ nI 0 ≤ x := by rw [Int32.not_le]
  have e2 : nI 1000 < x ↔ ¬ x ≤ nI 1000 := by rw [Int32.not_le]
  simp only [k115_0, k115_1, k115_4, k115_5, k115_8, k115_11, k115_12, k115_15, k115_16, if_true, if_false, ite_true, ite_false, not_true_eq_false, not_false_eq_true, true_or, or_true, false_or, or_false, and_self, ok_n0, ok_ni, ok_nr, ok_nl, va_rf_some, va_rf_none, true_and, and_true, List.length_nil, List.length_cons, Option.toList_some, Option.toList_none, List.cons_append, List.nil_append, rK_uA, rK_uI, rK_uJ, rK_uP, rP_uA, rP_uI, rP_uJ, rJ_uA, rJ_uI, rJ_uP, rI_uJ, rI_uP, rz_uA, rz_uI, rz_uJ, rz_uP, rs_uA, rs_uI, rs_uJ, rs_uP, Nat.reduceAdd, Nat.reduceMul, Nat.reduceSub, Nat.reduceLeDiff, Nat.reduceLT, Nat.reduceEqDiff, Nat.add_zero, Nat.zero_add, Nat.zero_le, e1, e2]
  by_cases c1 : nI 0 ≤ x
  · by_cases c2 : x ≤ nI 1000
    · simp only [c1, c2, if_true, if_false, ite_true, ite_false, not_true_eq_false, not_false_eq_true, true_or, or_true, false_or, or_false, and_self, ok_n0, ok_ni, ok_nr, ok_nl, va_rf_some, va_rf_none, true_and, and_true, List.length_nil, List.length_cons, Option.toList_some, Option.toList_none, List.cons_append, List.nil_append, rK_uA, rK_uI, rK_uJ, rK_uP, rP_uA, rP_uI, rP_uJ, rJ_uA, rJ_uI, rJ_uP, rI_uJ, rI_uP, rz_uA, rz_uI, rz_uJ, rz_uP, rs_uA, rs_uI, rs_uJ, rs_uP, Nat.reduceAdd, Nat.reduceMul, Nat.reduceSub, Nat.reduceLeDiff, Nat.reduceLT, Nat.reduceEqDiff, Nat.add_zero, Nat.zero_add, Nat.zero_le, decide_true, nb_t]
    · simp only [c1, c2, if_true, if_false, ite_true, ite_false, not_true_eq_false, not_false_eq_true, true_or, or_true, false_or, or_false, and_self, ok_n0, ok_ni, ok_nr, ok_nl, va_rf_some, va_rf_none, true_and, and_true, List.length_nil, List.length_cons, Option.toList_some, Option.toList_none, List.cons_append, List.nil_append, rK_uA, rK_uI, rK_uJ, rK_uP, rP_uA, rP_uI, rP_uJ, rJ_uA, rJ_uI, rJ_uP, rI_uJ, rI_uP, rz_uA, rz_uI, rz_uJ, rz_uP, rs_uA, rs_uI, rs_uJ, rs_uP, Nat.reduceAdd, Nat.reduceMul, Nat.reduceSub, Nat.reduceLeDiff, Nat.reduceLT, Nat.reduceEqDiff, Nat.add_zero, Nat.zero_add, Nat.zero_le, and_false, decide_false, nb_f]
  · simp only [c1, if_true, if_false, ite_true, ite_false, not_true_eq_false, not_false_eq_true, true_or, or_true, false_or, or_false, and_self, ok_n0, ok_ni, ok_nr, ok_nl, va_rf_some, va_rf_none, true_and, and_true, List.length_nil, List.length_cons, Option.toList_some, Option.toList_none, List.cons_append, List.nil_append, rK_uA, rK_uI, rK_uJ, rK_uP, rP_uA, rP_uI, rP_uJ, rJ_uA, rJ_uI, rJ_uP, rI_uJ, rI_uP, rz_uA, rz_uI, rz_uJ, rz_uP, rs_uA, rs_uI, rs_uJ, rs_uP, Nat.reduceAdd, Nat.reduceMul, Nat.reduceSub, Nat.reduceLeDiff, Nat.reduceLT, Nat.reduceEqDiff, Nat.add_zero, Nat.zero_add, Nat.zero_le, false_and, decide_false, nb_f]
theorem s_isPart (x : Int32) (h : pm_H) (Q : Option Value × pm_H → Prop) : pGo 148 0 [some (.int x)] [] h Q = Q (some (.int (nb (decide (nI 0 ≤ x ∧ x ≤ nI 1000)))), h) := by
  have e1 : x < nI 0 ↔ ¬ nI 0 ≤ x := by rw [Int32.not_le]
  have e2 : nI 1000 < x ↔ ¬ x ≤ nI 1000 := by rw [Int32.not_le]
  simp only [k148_0, k148_1, k148_4, k148_5, k148_8, k148_11, k148_12, k148_15, k148_16, if_true, if_false, ite_true, ite_false, not_true_eq_false, not_false_eq_true, true_or, or_true, false_or, or_false, and_self, ok_n0, ok_ni, ok_nr, ok_nl, va_rf_some, va_rf_none, true_and, and_true, List.length_nil, List.length_cons, Option.toList_some, Option.toList_none, List.cons_append, List.nil_append, rK_uA, rK_uI, rK_uJ, rK_uP, rP_uA, rP_uI, rP_uJ, rJ_uA, rJ_uI, rJ_uP, rI_uJ, rI_uP, rz_uA, rz_uI, rz_uJ, rz_uP, rs_uA, rs_uI, rs_uJ, rs_uP, Nat.reduceAdd, Nat.reduceMul, Nat.reduceSub, Nat.reduceLeDiff, Nat.reduceLT, Nat.reduceEqDiff, Nat.add_zero, Nat.zero_add, Nat.zero_le, e1, e2]
  by_cases c1 : nI 0 ≤ x
  · by_cases c2 : x ≤ nI 1000
    · simp only [c1, c2, if_true, if_false, ite_true, ite_false, not_true_eq_false, not_false_eq_true, true_or, or_true, false_or, or_false, and_self, ok_n0, ok_ni, ok_nr, ok_nl, va_rf_some, va_rf_none, true_and, and_true, List.length_nil, List.length_cons, Option.toList_some, Option.toList_none, List.cons_append, List.nil_append, rK_uA, rK_uI, rK_uJ, rK_uP, rP_uA, rP_uI, rP_uJ, rJ_uA, rJ_uI, rJ_uP, rI_uJ, rI_uP, rz_uA, rz_uI, rz_uJ, rz_uP, rs_uA, rs_uI, rs_uJ, rs_uP, Nat.reduceAdd, Nat.reduceMul, Nat.reduceSub, Nat.reduceLeDiff, Nat.reduceLT, Nat.reduceEqDiff, Nat.add_zero, Nat.zero_add, Nat.zero_le, decide_true, nb_t]
    · simp only [c1, c2, if_true, if_false, ite_true, ite_false, not_true_eq_false, not_false_eq_true, true_or, or_true, false_or, or_false, and_self, ok_n0, ok_ni, ok_nr, ok_nl, va_rf_some, va_rf_none, true_and, and_true, List.length_nil, List.length_cons, Option.toList_some, Option.toList_none, List.cons_append, List.nil_append, rK_uA, rK_uI, rK_uJ, rK_uP, rP_uA, rP_uI, rP_uJ, rJ_uA, rJ_uI, rJ_uP, rI_uJ, rI_uP, rz_uA, rz_uI, rz_uJ, rz_uP, rs_uA, rs_uI, rs_uJ, rs_uP, Nat.reduceAdd, Nat.reduceMul, Nat.reduceSub, Nat.reduceLeDiff, Nat.reduceLT, Nat.reduceEqDiff, Nat.add_zero, Nat.zero_add, Nat.zero_le, and_false, decide_false, nb_f]
  · simp only [c1, if_true, if_false, ite_true, ite_false, not_true_eq_false, not_false_eq_true, true_or, or_true, false_or, or_false, and_self, ok_n0, ok_ni, ok_nr, ok_nl, va_rf_some, va_rf_none, true_and, and_true, List.length_nil, List.length_cons, Option.toList_some, Option.toList_none, List.cons_append, List.nil_append, rK_uA, rK_uI, rK_uJ, rK_uP, rP_uA, rP_uI, rP_uJ, rJ_uA, rJ_uI, rJ_uP, rI_uJ, rI_uP, rz_uA, rz_uI, rz_uJ, rz_uP, rs_uA, rs_uI, rs_uJ, rs_uP, Nat.reduceAdd, Nat.reduceMul, Nat.reduceSub, Nat.reduceLeDiff, Nat.reduceLT, Nat.reduceEqDiff, Nat.add_zero, Nat.zero_add, Nat.zero_le, false_and, decide_false, nb_f]
theorem share_y {x : Int32} {m : Nat} (hm : m + 1 < 2147483648) (hx : nI 0 ≤ x ∧ x ≤ nI m) : ∃ k, k ≤ m ∧ x = nI k := by
  obtain ⟨h1, h2⟩ := hx
  rcases ar_ix x (n := m + 1) (by omega) with ⟨z, -⟩ | ⟨_, z, -⟩ | ⟨j, hj, e⟩
  · exact absurd h1 (by rw [Int32.not_le]; exact z)
  · have a := Int32.le_iff_toInt_le.mp z
    have b := Int32.le_iff_toInt_le.mp h2
    rw [nI_toInt (by omega)] at b
    rw [nI_toInt hm] at a
    omega
  · exact ⟨j, by omega, e⟩
def lftV (v : Nat → Int32) (w : Nat) (a b c d : Int32) : Nat → Int32 := upd (upd (upd (upd (upd v (620 + 6 * w + 1) (nI 1)) (620 + 6 * w + 2) a) (620 + 6 * w + 3) b) (620 + 6 * w + 4) c) (620 + 6 * w + 5) d
theorem lft_o (v : Nat → Int32) {w e : Nat} (a b c d : Int32) (h : e < 620 + 6 * w + 1 ∨ 620 + 6 * w + 6 ≤ e) : lftV v w a b c d e = v e := by
  rw [lftV, upd_at, if_neg (by omega), upd_at, if_neg (by omega), upd_at, if_neg (by omega), upd_at, if_neg (by omega), upd_at, if_neg (by omega)]
theorem lft_k (v : Nat → Int32) (w : Nat) (a b c d : Int32) : lftV v w a b c d (620 + 6 * w + 1) = nI 1 ∧ lftV v w a b c d (620 + 6 * w + 2) = a ∧ lftV v w a b c d (620 + 6 * w + 3) = b ∧ lftV v w a b c d (620 + 6 * w + 4) = c ∧ lftV v w a b c d (620 + 6 * w + 5) = d := by
  refine ⟨?_, ?_, ?_, ?_, ?_⟩
  · rw [lftV, upd_at, if_neg (by omega), upd_at, if_neg (by omega), upd_at, if_neg (by omega), upd_at, if_neg (by omega), upd_at, if_pos rfl]
  · rw [lftV, upd_at, if_neg (by omega), upd_at, if_neg (by omega), upd_at, if_neg (by omega), upd_at, if_pos rfl]
  · rw [lftV, upd_at, if_neg (by omega), upd_at, if_neg (by omega), upd_at, if_pos rfl]
  · rw [lftV, upd_at, if_neg (by omega), upd_at, if_pos rfl]
  · rw [lftV, upd_at, if_pos rfl]
theorem e_lift (R : XR h X hd un V wt W d B F Sl) (N : MR h (X + 115) hd un V wt W) (a a1 a2 a3 a4 : Int32) : EV X h 95 [some (.ref X), some (.int a), some (.int a1), some (.int a2), some (.int a3), some (.int a4)] 149 [some (.ref (X + 115)), some (.int a), some (.int a1), some (.int a2), some (.int a3), some (.int a4), none] := by
  obtain ⟨n, c, p, lo, r, rl, C, H, P, s, q, t⟩ := rel_v R N
  obtain ⟨v0, T0, e0⟩ := now_mv N
  generalize hvb : bV (rI h (X + 115 + 1)) hd = v at s q t e0
  have kX := R.xk.1
  have dk := t.k.1
  cases ht : thereV v a with
  | false =>
    refine ev_no (nI 0) R N (fun Q => ?_) (fun Q => ?_)
    · simp only [k95_0, k95_1, k95_4, k95_5, k95_8, k95_11, k95_12, k95_15, k95_18, k95_19, k95_22, k95_25, k95_27, k95_30, k95_33, k95_35, k95_38, k95_41, k95_42, k95_43, k95_44, k95_47, k95_48, k95_51, k95_54, k95_55, k95_56, k95_57, k95_59, k95_61, k95_64, k95_65, k95_68, has_dv t q, ht, if_true, if_false, ite_true, ite_false, not_true_eq_false, not_false_eq_true, true_or, or_true, false_or, or_false, and_self, ok_n0, ok_ni, ok_nr, ok_nl, va_rf_some, va_rf_none, true_and, and_true, List.length_nil, List.length_cons, Option.toList_some, Option.toList_none, List.cons_append, List.nil_append, rK_uA, rK_uI, rK_uJ, rK_uP, rP_uA, rP_uI, rP_uJ, rJ_uA, rJ_uI, rJ_uP, rI_uJ, rI_uP, rz_uA, rz_uI, rz_uJ, rz_uP, rs_uA, rs_uI, rs_uJ, rs_uP, Nat.reduceAdd, Nat.reduceMul, Nat.reduceSub, Nat.reduceLeDiff, Nat.reduceLT, Nat.reduceEqDiff, Nat.add_zero, Nat.zero_add, Nat.zero_le, nb_f, kX, R.pd, dk]
    · simp only [k149_0, k149_1, k149_2, k149_5, k149_8, k149_9, k149_12, k149_15, k149_16, k149_19, k149_22, k149_24, k149_27, k149_30, k149_32, k149_35, k149_38, k149_39, k149_40, k149_41, k149_44, k149_45, k149_46, k149_49, k149_51, k149_52, k149_55, k149_57, k149_58, k149_59, k149_60, k149_61, k149_62, k149_65, k149_67, k149_68, k149_69, k149_70, k149_71, k149_72, k149_75, k149_77, k149_78, k149_79, k149_80, k149_81, k149_82, k149_85, k149_87, k149_88, k149_89, k149_91, k149_92, k149_93, k149_96, k149_98, k149_99, k149_100, k149_102, k149_103, k149_104, k149_107, s_isThere T0, there_cg e0, ht, if_true, if_false, ite_true, ite_false, not_true_eq_false, not_false_eq_true, true_or, or_true, false_or, or_false, and_self, ok_n0, ok_ni, ok_nr, ok_nl, va_rf_some, va_rf_none, true_and, and_true, List.length_nil, List.length_cons, Option.toList_some, Option.toList_none, List.cons_append, List.nil_append, rK_uA, rK_uI, rK_uJ, rK_uP, rP_uA, rP_uI, rP_uJ, rJ_uA, rJ_uI, rJ_uP, rI_uJ, rI_uP, rz_uA, rz_uI, rz_uJ, rz_uP, rs_uA, rs_uI, rs_uJ, rs_uP, Nat.reduceAdd, Nat.reduceMul, Nat.reduceSub, Nat.reduceLeDiff, Nat.reduceLT, Nat.reduceEqDiff, Nat.add_zero, Nat.zero_add, Nat.zero_le, nb_f, T0.1.1]
  | true =>
    by_cases b1 : nI 0 ≤ a1 ∧ a1 ≤ nI 1000
    · by_cases b2 : nI 0 ≤ a2 ∧ a2 ≤ nI 1000
      · by_cases b3 : nI 0 ≤ a3 ∧ a3 ≤ nI 1000
        · by_cases b4 : nI 0 ≤ a4 ∧ a4 ≤ nI 1000
          · obtain ⟨w, hw, rfl, hw1⟩ := there_y ht
            obtain ⟨l1, l2, l3, l4, l5⟩ := lft_k v w a1 a2 a3 a4
            have s' : SI (lftV v w a1 a2 a3 a4) n c p lo r rl := s.cg (fun e he => lft_o v _ _ _ _ (by omega))
            have q' : RI (lftV v w a1 a2 a3 a4) C H P := q.set5 hw hw1 (fun e _ _ h3 => lft_o v _ _ _ _ h3) (Or.inr l1) (fun c hc => by
              rcases (show c = 0 ∨ c = 1 ∨ c = 2 ∨ c = 3 by omega) with rfl | rfl | rfl | rfl
              · obtain ⟨k, k1, k2⟩ := share_y (by omega) b1; exact ⟨k, k1, l2.trans k2⟩
              · obtain ⟨k, k1, k2⟩ := share_y (by omega) b2; exact ⟨k, k1, l3.trans k2⟩
              · obtain ⟨k, k1, k2⟩ := share_y (by omega) b3; exact ⟨k, k1, l4.trans k2⟩
              · obtain ⟨k, k1, k2⟩ := share_y (by omega) b4; exact ⟨k, k1, l5.trans k2⟩)
            refine evU (fun x => x) R N hvb.symm s q t s' q' (fun h1 eb t1 f1 => ?_) (fun h3 hb v0 T0 e0 T Bg h6 x E Q => ?_)
            · have x2 := s_Floats_put t1.k.2.2.2.2.2.2.2.2.2.2.2.1 hw a1 a2 a3 a4
              have t2 := t1.flt (v' := lftV v w a1 a2 a3 a4) (y := nI 1) (x := fset (rJ h1 (d + 50) 0) (nI w)) hw s.n4 (fun j => by
                rw [fset_g _ hw]
                by_cases e : j = w
                · simp [e]
                · simp [e]) (fun e he => lft_o v _ _ _ _ he) l1 l2 l3 l4 l5 q.c60
              have f2 : FRD d (d + 53) h1 (uA (uJ h1 (d + 50) 0 (fset (rJ h1 (d + 50) 0) (nI w))) (d + 51) (sh4 (rI h1 (d + 51)) w a1 a2 a3 a4)) := (FRD.uJ _ (by omega) (by omega) _ _).tr (FRD.uA _ (by omega) (by omega) _)
              generalize uA (uJ h1 (d + 50) 0 (fset (rJ h1 (d + 50) 0) (nI w))) (d + 51) (sh4 (rI h1 (d + 51)) w a1 a2 a3 a4) = h2 at x2 t2 f2
              refine ⟨h2, t2, f2, fun h3 x E Q => ?_⟩
              simp only [k95_0, k95_1, k95_4, k95_5, k95_8, k95_11, k95_12, k95_15, k95_18, k95_19, k95_22, k95_25, k95_27, k95_30, k95_33, k95_35, k95_38, k95_41, k95_42, k95_43, k95_44, k95_47, k95_48, k95_51, k95_54, k95_55, k95_56, k95_57, k95_59, k95_61, k95_64, k95_65, k95_68, has_dv t q, ht, s_isShare, b1, b2, b3, b4, decide_true, eb, x2, E, nb_ok, if_true, if_false, ite_true, ite_false, not_true_eq_false, not_false_eq_true, true_or, or_true, false_or, or_false, and_self, ok_n0, ok_ni, ok_nr, ok_nl, va_rf_some, va_rf_none, true_and, and_true, List.length_nil, List.length_cons, Option.toList_some, Option.toList_none, List.cons_append, List.nil_append, rK_uA, rK_uI, rK_uJ, rK_uP, rP_uA, rP_uI, rP_uJ, rJ_uA, rJ_uI, rJ_uP, rI_uJ, rI_uP, rz_uA, rz_uI, rz_uJ, rz_uP, rs_uA, rs_uI, rs_uJ, rs_uP, Nat.reduceAdd, Nat.reduceMul, Nat.reduceSub, Nat.reduceLeDiff, Nat.reduceLT, Nat.reduceEqDiff, Nat.add_zero, Nat.zero_add, Nat.zero_le, nb_t, n1_0, kX, R.pd, dk, t.k.2.2.2.2.2.2.2.2.2.2.1, t.k.2.2.2.2.2.2.2.2.2.2.2.1.1, f1.fk, f1.fp, f2.fk, f2.fp]
            · have eh := HM_of T.2.2.2
              have c1 : 40180 + (620 + 6 * w + 1) < 41160 := by omega
              have c2 : 40180 + (620 + 6 * w + 2) < 41160 := by omega
              have c3 : 40180 + (620 + 6 * w + 3) < 41160 := by omega
              have c4 : 40180 + (620 + 6 * w + 4) < 41160 := by omega
              have c5 : 40180 + (620 + 6 * w + 5) < 41160 := by omega
              have u1 : uI hb (X + 115 + 1) (40180 + (620 + 6 * w + 1)) (nI 1) = HM hb (X + 115) (rI hb (X + 115 + 1)) 40180 (upd v (620 + 6 * w + 1) (nI 1)) := by
                have := uI_HM hb (X + 115) (rI hb (X + 115 + 1)) 40180 v (620 + 6 * w + 1) (nI 1)
                rw [← eh] at this; exact this
              have st := s_seat T w
              rw [lftV] at E
              simp (disch := omega) only [k149_0, k149_1, k149_2, k149_5, k149_8, k149_9, k149_12, k149_15, k149_16, k149_19, k149_22, k149_24, k149_27, k149_30, k149_32, k149_35, k149_38, k149_39, k149_40, k149_41, k149_44, k149_45, k149_46, k149_49, k149_51, k149_52, k149_55, k149_57, k149_58, k149_59, k149_60, k149_61, k149_62, k149_65, k149_67, k149_68, k149_69, k149_70, k149_71, k149_72, k149_75, k149_77, k149_78, k149_79, k149_80, k149_81, k149_82, k149_85, k149_87, k149_88, k149_89, k149_91, k149_92, k149_93, k149_96, k149_98, k149_99, k149_100, k149_102, k149_103, k149_104, k149_107, s_isThere T0, there_cg e0, ht, s_isPart, b1, b2, b3, b4, decide_true, Bg, st, u1, uI_HM, ar_add, Nat.add_assoc 40180, ar_okw, ar_cl, c1, c2, c3, c4, c5, E, nb_ok, if_true, if_false, ite_true, ite_false, not_true_eq_false, not_false_eq_true, true_or, or_true, false_or, or_false, and_self, ok_n0, ok_ni, ok_nr, ok_nl, va_rf_some, va_rf_none, true_and, and_true, List.length_nil, List.length_cons, Option.toList_some, Option.toList_none, List.cons_append, List.nil_append, rK_uA, rK_uI, rK_uJ, rK_uP, rP_uA, rP_uI, rP_uJ, rJ_uA, rJ_uI, rJ_uP, rI_uJ, rI_uP, rz_uA, rz_uI, rz_uJ, rz_uP, rs_uA, rs_uI, rs_uJ, rs_uP, Nat.reduceAdd, Nat.reduceMul, Nat.reduceSub, Nat.reduceLeDiff, Nat.reduceLT, Nat.reduceEqDiff, Nat.add_zero, Nat.zero_add, Nat.zero_le, nb_t, n1_0, T0.1.1, T.1.1, T.1.2.1, T.1.2.2.1, rK_HM, rP_HM]
          · refine ev_no (nI 0) R N (fun Q => ?_) (fun Q => ?_)
            · simp only [k95_0, k95_1, k95_4, k95_5, k95_8, k95_11, k95_12, k95_15, k95_18, k95_19, k95_22, k95_25, k95_27, k95_30, k95_33, k95_35, k95_38, k95_41, k95_42, k95_43, k95_44, k95_47, k95_48, k95_51, k95_54, k95_55, k95_56, k95_57, k95_59, k95_61, k95_64, k95_65, k95_68, has_dv t q, ht, s_isShare, b1, b2, b3, b4, decide_true, decide_false, if_true, if_false, ite_true, ite_false, not_true_eq_false, not_false_eq_true, true_or, or_true, false_or, or_false, and_self, ok_n0, ok_ni, ok_nr, ok_nl, va_rf_some, va_rf_none, true_and, and_true, List.length_nil, List.length_cons, Option.toList_some, Option.toList_none, List.cons_append, List.nil_append, rK_uA, rK_uI, rK_uJ, rK_uP, rP_uA, rP_uI, rP_uJ, rJ_uA, rJ_uI, rJ_uP, rI_uJ, rI_uP, rz_uA, rz_uI, rz_uJ, rz_uP, rs_uA, rs_uI, rs_uJ, rs_uP, Nat.reduceAdd, Nat.reduceMul, Nat.reduceSub, Nat.reduceLeDiff, Nat.reduceLT, Nat.reduceEqDiff, Nat.add_zero, Nat.zero_add, Nat.zero_le, nb_f, nb_t, n1_0, kX, R.pd, dk]
            · simp only [k149_0, k149_1, k149_2, k149_5, k149_8, k149_9, k149_12, k149_15, k149_16, k149_19, k149_22, k149_24, k149_27, k149_30, k149_32, k149_35, k149_38, k149_39, k149_40, k149_41, k149_44, k149_45, k149_46, k149_49, k149_51, k149_52, k149_55, k149_57, k149_58, k149_59, k149_60, k149_61, k149_62, k149_65, k149_67, k149_68, k149_69, k149_70, k149_71, k149_72, k149_75, k149_77, k149_78, k149_79, k149_80, k149_81, k149_82, k149_85, k149_87, k149_88, k149_89, k149_91, k149_92, k149_93, k149_96, k149_98, k149_99, k149_100, k149_102, k149_103, k149_104, k149_107, s_isThere T0, there_cg e0, ht, s_isPart, b1, b2, b3, b4, decide_true, decide_false, if_true, if_false, ite_true, ite_false, not_true_eq_false, not_false_eq_true, true_or, or_true, false_or, or_false, and_self, ok_n0, ok_ni, ok_nr, ok_nl, va_rf_some, va_rf_none, true_and, and_true, List.length_nil, List.length_cons, Option.toList_some, Option.toList_none, List.cons_append, List.nil_append, rK_uA, rK_uI, rK_uJ, rK_uP, rP_uA, rP_uI, rP_uJ, rJ_uA, rJ_uI, rJ_uP, rI_uJ, rI_uP, rz_uA, rz_uI, rz_uJ, rz_uP, rs_uA, rs_uI, rs_uJ, rs_uP, Nat.reduceAdd, Nat.reduceMul, Nat.reduceSub, Nat.reduceLeDiff, Nat.reduceLT, Nat.reduceEqDiff, Nat.add_zero, Nat.zero_add, Nat.zero_le, nb_f, nb_t, n1_0, T0.1.1]
        · refine ev_no (nI 0) R N (fun Q => ?_) (fun Q => ?_)
          · simp only [k95_0, k95_1, k95_4, k95_5, k95_8, k95_11, k95_12, k95_15, k95_18, k95_19, k95_22, k95_25, k95_27, k95_30, k95_33, k95_35, k95_38, k95_41, k95_42, k95_43, k95_44, k95_47, k95_48, k95_51, k95_54, k95_55, k95_56, k95_57, k95_59, k95_61, k95_64, k95_65, k95_68, has_dv t q, ht, s_isShare, b1, b2, b3, decide_true, decide_false, if_true, if_false, ite_true, ite_false, not_true_eq_false, not_false_eq_true, true_or, or_true, false_or, or_false, and_self, ok_n0, ok_ni, ok_nr, ok_nl, va_rf_some, va_rf_none, true_and, and_true, List.length_nil, List.length_cons, Option.toList_some, Option.toList_none, List.cons_append, List.nil_append, rK_uA, rK_uI, rK_uJ, rK_uP, rP_uA, rP_uI, rP_uJ, rJ_uA, rJ_uI, rJ_uP, rI_uJ, rI_uP, rz_uA, rz_uI, rz_uJ, rz_uP, rs_uA, rs_uI, rs_uJ, rs_uP, Nat.reduceAdd, Nat.reduceMul, Nat.reduceSub, Nat.reduceLeDiff, Nat.reduceLT, Nat.reduceEqDiff, Nat.add_zero, Nat.zero_add, Nat.zero_le, nb_f, nb_t, n1_0, kX, R.pd, dk]
          · simp only [k149_0, k149_1, k149_2, k149_5, k149_8, k149_9, k149_12, k149_15, k149_16, k149_19, k149_22, k149_24, k149_27, k149_30, k149_32, k149_35, k149_38, k149_39, k149_40, k149_41, k149_44, k149_45, k149_46, k149_49, k149_51, k149_52, k149_55, k149_57, k149_58, k149_59, k149_60, k149_61, k149_62, k149_65, k149_67, k149_68, k149_69, k149_70, k149_71, k149_72, k149_75, k149_77, k149_78, k149_79, k149_80, k149_81, k149_82, k149_85, k149_87, k149_88, k149_89, k149_91, k149_92, k149_93, k149_96, k149_98, k149_99, k149_100, k149_102, k149_103, k149_104, k149_107, s_isThere T0, there_cg e0, ht, s_isPart, b1, b2, b3, decide_true, decide_false, if_true, if_false, ite_true, ite_false, not_true_eq_false, not_false_eq_true, true_or, or_true, false_or, or_false, and_self, ok_n0, ok_ni, ok_nr, ok_nl, va_rf_some, va_rf_none, true_and, and_true, List.length_nil, List.length_cons, Option.toList_some, Option.toList_none, List.cons_append, List.nil_append, rK_uA, rK_uI, rK_uJ, rK_uP, rP_uA, rP_uI, rP_uJ, rJ_uA, rJ_uI, rJ_uP, rI_uJ, rI_uP, rz_uA, rz_uI, rz_uJ, rz_uP, rs_uA, rs_uI, rs_uJ, rs_uP, Nat.reduceAdd, Nat.reduceMul, Nat.reduceSub, Nat.reduceLeDiff, Nat.reduceLT, Nat.reduceEqDiff, Nat.add_zero, Nat.zero_add, Nat.zero_le, nb_f, nb_t, n1_0, T0.1.1]
      · refine ev_no (nI 0) R N (fun Q => ?_) (fun Q => ?_)
        · simp only [k95_0, k95_1, k95_4, k95_5, k95_8, k95_11, k95_12, k95_15, k95_18, k95_19, k95_22, k95_25, k95_27, k95_30, k95_33, k95_35, k95_38, k95_41, k95_42, k95_43, k95_44, k95_47, k95_48, k95_51, k95_54, k95_55, k95_56, k95_57, k95_59, k95_61, k95_64, k95_65, k95_68, has_dv t q, ht, s_isShare, b1, b2, decide_true, decide_false, if_true, if_false, ite_true, ite_false, not_true_eq_false, not_false_eq_true, true_or, or_true, false_or, or_false, and_self, ok_n0, ok_ni, ok_nr, ok_nl, va_rf_some, va_rf_none, true_and, and_true, List.length_nil, List.length_cons, Option.toList_some, Option.toList_none, List.cons_append, List.nil_append, rK_uA, rK_uI, rK_uJ, rK_uP, rP_uA, rP_uI, rP_uJ, rJ_uA, rJ_uI, rJ_uP, rI_uJ, rI_uP, rz_uA, rz_uI, rz_uJ, rz_uP, rs_uA, rs_uI, rs_uJ, rs_uP, Nat.reduceAdd, Nat.reduceMul, Nat.reduceSub, Nat.reduceLeDiff, Nat.reduceLT, Nat.reduceEqDiff, Nat.add_zero, Nat.zero_add, Nat.zero_le, nb_f, nb_t, n1_0, kX, R.pd, dk]
        · simp only [k149_0, k149_1, k149_2, k149_5, k149_8, k149_9, k149_12, k149_15, k149_16, k149_19, k149_22, k149_24, k149_27, k149_30, k149_32, k149_35, k149_38, k149_39, k149_40, k149_41, k149_44, k149_45, k149_46, k149_49, k149_51, k149_52, k149_55, k149_57, k149_58, k149_59, k149_60, k149_61, k149_62, k149_65, k149_67, k149_68, k149_69, k149_70, k149_71, k149_72, k149_75, k149_77, k149_78, k149_79, k149_80, k149_81, k149_82, k149_85, k149_87, k149_88, k149_89, k149_91, k149_92, k149_93, k149_96, k149_98, k149_99, k149_100, k149_102, k149_103, k149_104, k149_107, s_isThere T0, there_cg e0, ht, s_isPart, b1, b2, decide_true, decide_false, if_true, if_false, ite_true, ite_false, not_true_eq_false, not_false_eq_true, true_or, or_true, false_or, or_false, and_self, ok_n0, ok_ni, ok_nr, ok_nl, va_rf_some, va_rf_none, true_and, and_true, List.length_nil, List.length_cons, Option.toList_some, Option.toList_none, List.cons_append, List.nil_append, rK_uA, rK_uI, rK_uJ, rK_uP, rP_uA, rP_uI, rP_uJ, rJ_uA, rJ_uI, rJ_uP, rI_uJ, rI_uP, rz_uA, rz_uI, rz_uJ, rz_uP, rs_uA, rs_uI, rs_uJ, rs_uP, Nat.reduceAdd, Nat.reduceMul, Nat.reduceSub, Nat.reduceLeDiff, Nat.reduceLT, Nat.reduceEqDiff, Nat.add_zero, Nat.zero_add, Nat.zero_le, nb_f, nb_t, n1_0, T0.1.1]
    · refine ev_no (nI 0) R N (fun Q => ?_) (fun Q => ?_)
      · simp only [k95_0, k95_1, k95_4, k95_5, k95_8, k95_11, k95_12, k95_15, k95_18, k95_19, k95_22, k95_25, k95_27, k95_30, k95_33, k95_35, k95_38, k95_41, k95_42, k95_43, k95_44, k95_47, k95_48, k95_51, k95_54, k95_55, k95_56, k95_57, k95_59, k95_61, k95_64, k95_65, k95_68, has_dv t q, ht, s_isShare, b1, decide_true, decide_false, if_true, if_false, ite_true, ite_false, not_true_eq_false, not_false_eq_true, true_or, or_true, false_or, or_false, and_self, ok_n0, ok_ni, ok_nr, ok_nl, va_rf_some, va_rf_none, true_and, and_true, List.length_nil, List.length_cons, Option.toList_some, Option.toList_none, List.cons_append, List.nil_append, rK_uA, rK_uI, rK_uJ, rK_uP, rP_uA, rP_uI, rP_uJ, rJ_uA, rJ_uI, rJ_uP, rI_uJ, rI_uP, rz_uA, rz_uI, rz_uJ, rz_uP, rs_uA, rs_uI, rs_uJ, rs_uP, Nat.reduceAdd, Nat.reduceMul, Nat.reduceSub, Nat.reduceLeDiff, Nat.reduceLT, Nat.reduceEqDiff, Nat.add_zero, Nat.zero_add, Nat.zero_le, nb_f, nb_t, n1_0, kX, R.pd, dk]
      · simp only [k149_0, k149_1, k149_2, k149_5, k149_8, k149_9, k149_12, k149_15, k149_16, k149_19, k149_22, k149_24, k149_27, k149_30, k149_32, k149_35, k149_38, k149_39, k149_40, k149_41, k149_44, k149_45, k149_46, k149_49, k149_51, k149_52, k149_55, k149_57, k149_58, k149_59, k149_60, k149_61, k149_62, k149_65, k149_67, k149_68, k149_69, k149_70, k149_71, k149_72, k149_75, k149_77, k149_78, k149_79, k149_80, k149_81, k149_82, k149_85, k149_87, k149_88, k149_89, k149_91, k149_92, k149_93, k149_96, k149_98, k149_99, k149_100, k149_102, k149_103, k149_104, k149_107, s_isThere T0, there_cg e0, ht, s_isPart, b1, decide_true, decide_false, if_true, if_false, ite_true, ite_false, not_true_eq_false, not_false_eq_true, true_or, or_true, false_or, or_false, and_self, ok_n0, ok_ni, ok_nr, ok_nl, va_rf_some, va_rf_none, true_and, and_true, List.length_nil, List.length_cons, Option.toList_some, Option.toList_none, List.cons_append, List.nil_append, rK_uA, rK_uI, rK_uJ, rK_uP, rP_uA, rP_uI, rP_uJ, rJ_uA, rJ_uI, rJ_uP, rI_uJ, rI_uP, rz_uA, rz_uI, rz_uJ, rz_uP, rs_uA, rs_uI, rs_uJ, rs_uP, Nat.reduceAdd, Nat.reduceMul, Nat.reduceSub, Nat.reduceLeDiff, Nat.reduceLT, Nat.reduceEqDiff, Nat.add_zero, Nat.zero_add, Nat.zero_le, nb_f, nb_t, n1_0, T0.1.1]
end EVS2
