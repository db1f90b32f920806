/-! THE MODEL: at -/
def hkV (v : Nat → Int32) (n : Nat) (lo C H P : Nat → Nat) (i : Nat) (x y : Int32) (k : Nat) : Bool := shV v n lo C H (wV v i k) && bholds (rcV v lo C H P (wV v i k)) x y
def mflV (v : Nat → Int32) (i : Nat) (hk : Nat → Bool) : Nat → Int32
  | 0 => -1
  | k + 1 => if hk k = true ∧ v (620 + 6 * wV v i k + 1) = nI 1 then (if mflV v i hk k < nI 0 ∨ v (35 + 65 * i + 5 + k) = focV v i then v (35 + 65 * i + 5 + k) else mflV v i hk k) else mflV v i hk k
def mtiV (v : Nat → Int32) (i : Nat) (hk : Nat → Bool) : Nat → Int32
  | 0 => -1
  | k + 1 => if hk k = true ∧ ¬ v (620 + 6 * wV v i k + 1) = nI 1 then v (35 + 65 * i + 5 + k) else mtiV v i hk k
def matV (v : Nat → Int32) (i : Nat) (hk : Nat → Bool) (c : Nat) : Int32 := if mflV v i hk c < nI 0 then mtiV v i hk c else mflV v i hk c
theorem share_b {W q : Nat} (hW : W ≤ 10000) (hq : q ≤ 1000) : (nI W * nI q / nI 1000).toInt = (W * q / 1000 : Nat) ∧ W * q / 1000 ≤ W := by
  have hm : W * q ≤ W * 1000 := Nat.mul_le_mul_left W hq
  have hm2 : W * 1000 ≤ 10000 * 1000 := Nat.mul_le_mul_right 1000 hW
  rw [ar_mul, ar_div (by omega) (by omega) (by omega), nI_toInt (by omega)]
  exact ⟨rfl, by omega⟩
section INV
variable {v : Nat → Int32} {n c : Nat} {p lo r rl C H P : Nat → Nat} {h : pm_H} {d : Nat}
theorem fl_gb (si : SI v n c p lo r rl) (q : RI v C H P) {j w : Nat} (hj : j < n) (hw : w < 60) : GB (flV v j w) := by
  have gb := si.gb hj
  obtain ⟨W, W1, W2⟩ := gb.nw
  obtain ⟨H0, H1, H2⟩ := gb.nh
  obtain ⟨q0, a0, b0⟩ := q.sh w 0 hw (by omega)
  obtain ⟨q1, a1, b1⟩ := q.sh w 1 hw (by omega)
  obtain ⟨q2, a2, b2⟩ := q.sh w 2 hw (by omega)
  obtain ⟨q3, a3, b3⟩ := q.sh w 3 hw (by omega)
  have e0 : v (620 + 6 * w + 2) = nI q0 := b0
  have e1 : v (620 + 6 * w + 3) = nI q1 := b1
  have e2 : v (620 + 6 * w + 4) = nI q2 := b2
  have e3 : v (620 + 6 * w + 5) = nI q3 := b3
  obtain ⟨s0, s0'⟩ := share_b W1 a0
  obtain ⟨s1, s1'⟩ := share_b H1 a1
  obtain ⟨s2, s2'⟩ := share_b W1 a2
  obtain ⟨s3, s3'⟩ := share_b H1 a3
  have bx := si.bx j hj
  unfold GB flV
  rw [bx4_0, bx4_1, bx4_2, bx4_3, W2, H2, e0, e1, e2, e3, s2, s3]
  rw [ti_add (by rw [s0]; omega) (by rw [s0]; omega), ti_add (by rw [s1]; omega) (by rw [s1]; omega), s0, s1]
  rw [W2, H2, nI_toInt (by omega), nI_toInt (by omega)] at bx
  omega
theorem rc_gb (si : SI v n c p lo r rl) (q : RI v C H P) {w : Nat} (hw : w < 60) (ht : v (620 + 6 * w) = nI 1) (hl : lo (H w) < n) : GB (rcV v lo C H P w) := by
  obtain ⟨h1, h2, h3⟩ := q.hp w hw ht
  unfold rcV
  by_cases hf : v (620 + 6 * w + 1) = nI 1
  · rw [if_pos hf]; exact fl_gb si q hl hw
  · rw [if_neg hf]
    obtain ⟨κ, hκ1, hκ2⟩ := q.kd _ h1
    obtain ⟨mm, hm1, hm2⟩ := q.ms _ h1
    have gb := si.gb hl
    have bx := si.bx _ hl
    have hc := q.c60 _ h1
    have zl := tz_lt (q.tile hw ht hf) h2
    have zc := tz_le v (H w) (C (H w))
    rw [hκ2, hm2]
    by_cases h2κ : κ = 2
    · subst h2κ
      have e : narB (bxV v (lo (H w))) (nI 2) (nI mm) (v (35 + 65 * H w + 2)) (tz v (H w) (P w)) (tz v (H w) (C (H w))) = bxV v (lo (H w)) := by simp (disch := omega) only [narB, ar_eq, if_true, if_false, ite_true, ite_false, not_true_eq_false, not_false_eq_true, true_or, or_true, false_or, or_false, and_self, ok_n0, ok_ni, ok_nr, ok_nl, va_rf_some, va_rf_none, true_and, and_true, List.length_nil, List.length_cons, Option.toList_some, Option.toList_none, List.cons_append, List.nil_append, rK_uA, rK_uI, rK_uJ, rK_uP, rP_uA, rP_uI, rP_uJ, rJ_uA, rJ_uI, rJ_uP, rI_uJ, rI_uP, rz_uA, rz_uI, rz_uJ, rz_uP, rs_uA, rs_uI, rs_uJ, rs_uP, Nat.reduceAdd, Nat.reduceMul, Nat.reduceSub, Nat.reduceLeDiff, Nat.reduceLT, Nat.reduceEqDiff, Nat.add_zero, Nat.zero_add, Nat.zero_le]
      rw [e]; exact gb
    · exact gb.sub ((nar_sd gb bx.2.2.1.1 bx.2.2.2.1 hκ1 h2κ hm1 (by omega)).1 _ zl)
theorem s_at_loop {M s i : Nat} (t : MV h M s v) (t2 : MK2 h M) (si : SI v n c p lo r rl) (q : RI v C H P) (hi : i < 9) (x y : Int32) {a3 : Int32} (Q : Option Value × pm_H → Prop) (hQ : ∀ h', SCR M h h' → Q (some (.int (matV v i (hkV v n lo C H P i x y) (C i))), h')) : ∀ (m k : Nat) (hh : pm_H) (l9 : Option Value), k + m = C i → SCR M h hh → pGo 171 46 [some (.ref M), some (.int x), some (.int y), some (.int a3), some (.int (nI i)), some (.int (nI (s + (35 + 65 * i)))), some (.int (mflV v i (hkV v n lo C H P i x y) k)), some (.int (mtiV v i (hkV v n lo C H P i x y) k)), some (.int (nI k)), l9] [] hh Q := by
  have hc := q.c60 i hi
  intro m
  induction m with
  | zero =>
    intro k hh l9 hk hS
    have hk : k = C i := by omega
    subst hk
    obtain ⟨t1, u2, u3, u4⟩ := t.scr hS
    have c2 : s + (35 + 65 * i + 3) < 41160 := by omega
    have fin := hQ hh hS
    rw [matV] at fin
    rw [k171_46]
    simp (disch := omega) only [k171_0, k171_1, k171_2, k171_3, k171_6, k171_7, k171_8, k171_11, k171_12, k171_13, k171_14, k171_17, k171_18, k171_21, k171_23, k171_24, k171_25, k171_26, k171_27, k171_29, k171_30, k171_32, k171_35, k171_37, k171_38, k171_40, k171_41, k171_43, k171_44, k171_48, k171_49, k171_52, k171_54, k171_55, k171_56, k171_57, k171_60, k171_61, k171_64, k171_66, k171_67, k171_68, k171_70, k171_71, k171_72, k171_74, k171_75, k171_77, k171_80, k171_83, k171_84, k171_85, k171_86, k171_89, k171_92, k171_95, k171_96, k171_99, k171_100, k171_102, k171_105, k171_106, k171_107, k171_108, k171_111, k171_113, k171_115, k171_118, k171_120, k171_123, k171_125, k171_126, k171_128, k171_131, k171_134, k171_136, k171_138, k171_141, k171_144, k171_146, k171_149, k171_151, k171_154, k171_156, if_true, if_false, ite_true, ite_false, not_true_eq_false, not_false_eq_true, true_or, or_true, false_or, or_false, and_self, ok_n0, ok_ni, ok_nr, ok_nl, va_rf_some, va_rf_none, true_and, and_true, List.length_nil, List.length_cons, Option.toList_some, Option.toList_none, List.cons_append, List.nil_append, rK_uA, rK_uI, rK_uJ, rK_uP, rP_uA, rP_uI, rP_uJ, rJ_uA, rJ_uI, rJ_uP, rI_uJ, rI_uP, rz_uA, rz_uI, rz_uJ, rz_uP, rs_uA, rs_uI, rs_uJ, rs_uP, Nat.reduceAdd, Nat.reduceMul, Nat.reduceSub, Nat.reduceLeDiff, Nat.reduceLT, Nat.reduceEqDiff, Nat.add_zero, Nat.zero_add, Nat.zero_le, t1.1, t1.2.1, t1.2.2.1, ar_add, ar_oki, ar_cl, ar_le, Nat.add_assoc s, u4, q.ct i hi, c2, Nat.le_refl]
    by_cases c3 : mflV v i (hkV v n lo C H P i x y) (C i) < nI 0
    · rw [if_pos c3] at fin
      simp only [c3, if_true, if_false, ite_true, ite_false, not_true_eq_false, not_false_eq_true, true_or, or_true, false_or, or_false, and_self, ok_n0, ok_ni, ok_nr, ok_nl, va_rf_some, va_rf_none, true_and, and_true, List.length_nil, List.length_cons, Option.toList_some, Option.toList_none, List.cons_append, List.nil_append, rK_uA, rK_uI, rK_uJ, rK_uP, rP_uA, rP_uI, rP_uJ, rJ_uA, rJ_uI, rJ_uP, rI_uJ, rI_uP, rz_uA, rz_uI, rz_uJ, rz_uP, rs_uA, rs_uI, rs_uJ, rs_uP, Nat.reduceAdd, Nat.reduceMul, Nat.reduceSub, Nat.reduceLeDiff, Nat.reduceLT, Nat.reduceEqDiff, Nat.add_zero, Nat.zero_add, Nat.zero_le]
      exact fin
    · rw [if_neg c3] at fin
      simp only [c3, if_true, if_false, ite_true, ite_false, not_true_eq_false, not_false_eq_true, true_or, or_true, false_or, or_false, and_self, ok_n0, ok_ni, ok_nr, ok_nl, va_rf_some, va_rf_none, true_and, and_true, List.length_nil, List.length_cons, Option.toList_some, Option.toList_none, List.cons_append, List.nil_append, rK_uA, rK_uI, rK_uJ, rK_uP, rP_uA, rP_uI, rP_uJ, rJ_uA, rJ_uI, rJ_uP, rI_uJ, rI_uP, rz_uA, rz_uI, rz_uJ, rz_uP, rs_uA, rs_uI, rs_uJ, rs_uP, Nat.reduceAdd, Nat.reduceMul, Nat.reduceSub, Nat.reduceLeDiff, Nat.reduceLT, Nat.reduceEqDiff, Nat.add_zero, Nat.zero_add, Nat.zero_le]
      exact fin
  | succ m ih =>
    intro k hh l9 hk hS
    have tH := t.scr hS
    obtain ⟨t1, u2, u3, u4⟩ := id tH
    have uM2 := t2.scr hS.1 hS.2.1
    have c1 : ¬ C i ≤ k := by omega
    have c2 : s + (35 + 65 * i + 3) < 41160 := by omega
    have c3 : s + (35 + 65 * i + 5 + k) < 41160 := by omega
    obtain ⟨o1, o2, o3, o4, o5⟩ := q.od i k hi (by omega)
    have c4 : s + (620 + 6 * wV v i k + 1) < 41160 := by omega
    have ihN : ∀ h' l9, SCR M h h' → mflV v i (hkV v n lo C H P i x y) (k + 1) = mflV v i (hkV v n lo C H P i x y) k → mtiV v i (hkV v n lo C H P i x y) (k + 1) = mtiV v i (hkV v n lo C H P i x y) k → pGo 171 46 [some (.ref M), some (.int x), some (.int y), some (.int a3), some (.int (nI i)), some (.int (nI (s + (35 + 65 * i)))), some (.int (mflV v i (hkV v n lo C H P i x y) k)), some (.int (mtiV v i (hkV v n lo C H P i x y) k)), some (.int (nI (k + 1))), l9] [] h' Q := by
      intro h' l9 hS' e1 e2
      have := ih (k + 1) h' l9 (by omega) hS'
      rw [e1, e2] at this
      exact this
    rw [k171_46]
    simp (disch := omega) only [k171_0, k171_1, k171_2, k171_3, k171_6, k171_7, k171_8, k171_11, k171_12, k171_13, k171_14, k171_17, k171_18, k171_21, k171_23, k171_24, k171_25, k171_26, k171_27, k171_29, k171_30, k171_32, k171_35, k171_37, k171_38, k171_40, k171_41, k171_43, k171_44, k171_48, k171_49, k171_52, k171_54, k171_55, k171_56, k171_57, k171_60, k171_61, k171_64, k171_66, k171_67, k171_68, k171_70, k171_71, k171_72, k171_74, k171_75, k171_77, k171_80, k171_83, k171_84, k171_85, k171_86, k171_89, k171_92, k171_95, k171_96, k171_99, k171_100, k171_102, k171_105, k171_106, k171_107, k171_108, k171_111, k171_113, k171_115, k171_118, k171_120, k171_123, k171_125, k171_126, k171_128, k171_131, k171_134, k171_136, k171_138, k171_141, k171_144, k171_146, k171_149, k171_151, k171_154, k171_156, if_true, if_false, ite_true, ite_false, not_true_eq_false, not_false_eq_true, true_or, or_true, false_or, or_false, and_self, ok_n0, ok_ni, ok_nr, ok_nl, va_rf_some, va_rf_none, true_and, and_true, List.length_nil, List.length_cons, Option.toList_some, Option.toList_none, List.cons_append, List.nil_append, rK_uA, rK_uI, rK_uJ, rK_uP, rP_uA, rP_uI, rP_uJ, rJ_uA, rJ_uI, rJ_uP, rI_uJ, rI_uP, rz_uA, rz_uI, rz_uJ, rz_uP, rs_uA, rs_uI, rs_uJ, rs_uP, Nat.reduceAdd, Nat.reduceMul, Nat.reduceSub, Nat.reduceLeDiff, Nat.reduceLT, Nat.reduceEqDiff, Nat.add_zero, Nat.zero_add, Nat.zero_le, t1.1, t1.2.1, t1.2.2.1, ar_add, ar_oki, ar_cl, ar_le, Nat.add_assoc s, u4, q.ct i hi, c1, c2, c3, o2]
    refine s_isShown tH uM2 si q o1 o3 _ (fun h' hS' he => ?_)
    have hS2 := hS.tr hS'
    have tH' := t.scr hS2
    obtain ⟨w1, w2, w3, w4⟩ := id tH'
    have wM2 := t2.scr hS2.1 hS2.2.1
    cases hb : shV v n lo C H (wV v i k) with
    | false =>
      have hkf : hkV v n lo C H P i x y k = false := by rw [hkV, hb]; rfl
      simp (disch := omega) only [k171_0, k171_1, k171_2, k171_3, k171_6, k171_7, k171_8, k171_11, k171_12, k171_13, k171_14, k171_17, k171_18, k171_21, k171_23, k171_24, k171_25, k171_26, k171_27, k171_29, k171_30, k171_32, k171_35, k171_37, k171_38, k171_40, k171_41, k171_43, k171_44, k171_48, k171_49, k171_52, k171_54, k171_55, k171_56, k171_57, k171_60, k171_61, k171_64, k171_66, k171_67, k171_68, k171_70, k171_71, k171_72, k171_74, k171_75, k171_77, k171_80, k171_83, k171_84, k171_85, k171_86, k171_89, k171_92, k171_95, k171_96, k171_99, k171_100, k171_102, k171_105, k171_106, k171_107, k171_108, k171_111, k171_113, k171_115, k171_118, k171_120, k171_123, k171_125, k171_126, k171_128, k171_131, k171_134, k171_136, k171_138, k171_141, k171_144, k171_146, k171_149, k171_151, k171_154, k171_156, if_true, if_false, ite_true, ite_false, not_true_eq_false, not_false_eq_true, true_or, or_true, false_or, or_false, and_self, ok_n0, ok_ni, ok_nr, ok_nl, va_rf_some, va_rf_none, true_and, and_true, List.length_nil, List.length_cons, Option.toList_some, Option.toList_none, List.cons_append, List.nil_append, rK_uA, rK_uI, rK_uJ, rK_uP, rP_uA, rP_uI, rP_uJ, rJ_uA, rJ_uI, rJ_uP, rI_uJ, rI_uP, rz_uA, rz_uI, rz_uJ, rz_uP, rs_uA, rs_uI, rs_uJ, rs_uP, Nat.reduceAdd, Nat.reduceMul, Nat.reduceSub, Nat.reduceLeDiff, Nat.reduceLT, Nat.reduceEqDiff, Nat.add_zero, Nat.zero_add, Nat.zero_le, nb_f, ar_add]
      refine ihN _ _ hS2 ?_ ?_
      · rw [mflV, if_neg (by rw [hkf]; simp)]
      · rw [mtiV, if_neg (by rw [hkf]; simp)]
    | true =>
      have hl : lo (H (wV v i k)) < n := by
        have := hb
        rw [shV, Bool.and_eq_true] at this
        exact of_decide_eq_true this.1
      have gb := rc_gb si q o1 o3 hl
      have e4 := he hb
      have ov := s_isOver w1 wM2 (GB_eq4 e4 gb) x y
      rw [eq4_holds e4] at ov
      simp (disch := omega) only [k171_0, k171_1, k171_2, k171_3, k171_6, k171_7, k171_8, k171_11, k171_12, k171_13, k171_14, k171_17, k171_18, k171_21, k171_23, k171_24, k171_25, k171_26, k171_27, k171_29, k171_30, k171_32, k171_35, k171_37, k171_38, k171_40, k171_41, k171_43, k171_44, k171_48, k171_49, k171_52, k171_54, k171_55, k171_56, k171_57, k171_60, k171_61, k171_64, k171_66, k171_67, k171_68, k171_70, k171_71, k171_72, k171_74, k171_75, k171_77, k171_80, k171_83, k171_84, k171_85, k171_86, k171_89, k171_92, k171_95, k171_96, k171_99, k171_100, k171_102, k171_105, k171_106, k171_107, k171_108, k171_111, k171_113, k171_115, k171_118, k171_120, k171_123, k171_125, k171_126, k171_128, k171_131, k171_134, k171_136, k171_138, k171_141, k171_144, k171_146, k171_149, k171_151, k171_154, k171_156, ov, if_true, if_false, ite_true, ite_false, not_true_eq_false, not_false_eq_true, true_or, or_true, false_or, or_false, and_self, ok_n0, ok_ni, ok_nr, ok_nl, va_rf_some, va_rf_none, true_and, and_true, List.length_nil, List.length_cons, Option.toList_some, Option.toList_none, List.cons_append, List.nil_append, rK_uA, rK_uI, rK_uJ, rK_uP, rP_uA, rP_uI, rP_uJ, rJ_uA, rJ_uI, rJ_uP, rI_uJ, rI_uP, rz_uA, rz_uI, rz_uJ, rz_uP, rs_uA, rs_uI, rs_uJ, rs_uP, Nat.reduceAdd, Nat.reduceMul, Nat.reduceSub, Nat.reduceLeDiff, Nat.reduceLT, Nat.reduceEqDiff, Nat.add_zero, Nat.zero_add, Nat.zero_le, nb_t, w1.1, n1_0, nb_0]
      cases hb2 : bholds (rcV v lo C H P (wV v i k)) x y with
      | false =>
        have hkf : hkV v n lo C H P i x y k = false := by rw [hkV, hb, hb2]; rfl
        simp (disch := omega) only [k171_0, k171_1, k171_2, k171_3, k171_6, k171_7, k171_8, k171_11, k171_12, k171_13, k171_14, k171_17, k171_18, k171_21, k171_23, k171_24, k171_25, k171_26, k171_27, k171_29, k171_30, k171_32, k171_35, k171_37, k171_38, k171_40, k171_41, k171_43, k171_44, k171_48, k171_49, k171_52, k171_54, k171_55, k171_56, k171_57, k171_60, k171_61, k171_64, k171_66, k171_67, k171_68, k171_70, k171_71, k171_72, k171_74, k171_75, k171_77, k171_80, k171_83, k171_84, k171_85, k171_86, k171_89, k171_92, k171_95, k171_96, k171_99, k171_100, k171_102, k171_105, k171_106, k171_107, k171_108, k171_111, k171_113, k171_115, k171_118, k171_120, k171_123, k171_125, k171_126, k171_128, k171_131, k171_134, k171_136, k171_138, k171_141, k171_144, k171_146, k171_149, k171_151, k171_154, k171_156, if_true, if_false, ite_true, ite_false, not_true_eq_false, not_false_eq_true, true_or, or_true, false_or, or_false, and_self, ok_n0, ok_ni, ok_nr, ok_nl, va_rf_some, va_rf_none, true_and, and_true, List.length_nil, List.length_cons, Option.toList_some, Option.toList_none, List.cons_append, List.nil_append, rK_uA, rK_uI, rK_uJ, rK_uP, rP_uA, rP_uI, rP_uJ, rJ_uA, rJ_uI, rJ_uP, rI_uJ, rI_uP, rz_uA, rz_uI, rz_uJ, rz_uP, rs_uA, rs_uI, rs_uJ, rs_uP, Nat.reduceAdd, Nat.reduceMul, Nat.reduceSub, Nat.reduceLeDiff, Nat.reduceLT, Nat.reduceEqDiff, Nat.add_zero, Nat.zero_add, Nat.zero_le, ar_add]
        refine ihN _ _ hS2 ?_ ?_
        · rw [mflV, if_neg (by rw [hkf]; simp)]
        · rw [mtiV, if_neg (by rw [hkf]; simp)]
      | true =>
        have hkt : hkV v n lo C H P i x y k = true := by rw [hkV, hb, hb2]; rfl
        simp (disch := omega) only [k171_0, k171_1, k171_2, k171_3, k171_6, k171_7, k171_8, k171_11, k171_12, k171_13, k171_14, k171_17, k171_18, k171_21, k171_23, k171_24, k171_25, k171_26, k171_27, k171_29, k171_30, k171_32, k171_35, k171_37, k171_38, k171_40, k171_41, k171_43, k171_44, k171_48, k171_49, k171_52, k171_54, k171_55, k171_56, k171_57, k171_60, k171_61, k171_64, k171_66, k171_67, k171_68, k171_70, k171_71, k171_72, k171_74, k171_75, k171_77, k171_80, k171_83, k171_84, k171_85, k171_86, k171_89, k171_92, k171_95, k171_96, k171_99, k171_100, k171_102, k171_105, k171_106, k171_107, k171_108, k171_111, k171_113, k171_115, k171_118, k171_120, k171_123, k171_125, k171_126, k171_128, k171_131, k171_134, k171_136, k171_138, k171_141, k171_144, k171_146, k171_149, k171_151, k171_154, k171_156, s_seat tH', s_focusOf tH' hi (q.foh hi), if_true, if_false, ite_true, ite_false, not_true_eq_false, not_false_eq_true, true_or, or_true, false_or, or_false, and_self, ok_n0, ok_ni, ok_nr, ok_nl, va_rf_some, va_rf_none, true_and, and_true, List.length_nil, List.length_cons, Option.toList_some, Option.toList_none, List.cons_append, List.nil_append, rK_uA, rK_uI, rK_uJ, rK_uP, rP_uA, rP_uI, rP_uJ, rJ_uA, rJ_uI, rJ_uP, rI_uJ, rI_uP, rz_uA, rz_uI, rz_uJ, rz_uP, rs_uA, rs_uI, rs_uJ, rs_uP, Nat.reduceAdd, Nat.reduceMul, Nat.reduceSub, Nat.reduceLeDiff, Nat.reduceLT, Nat.reduceEqDiff, Nat.add_zero, Nat.zero_add, Nat.zero_le, w1.1, w1.2.1, w1.2.2.1, ar_add, ar_oki, ar_cl, Nat.add_assoc s, w4, c4, reduceCtorEq]
        have fin := ih (k + 1) h' (some (.int (nI (wV v i k)))) (by omega) hS2
        rw [mflV, mtiV] at fin
        rcases q.fl _ o1 with ⟨f0, -⟩ | ⟨f1, -⟩
        · have g1 : ¬ (hkV v n lo C H P i x y k = true ∧ v (620 + 6 * wV v i k + 1) = nI 1) := by rw [f0]; exact fun z => n0_1 z.2
          have g2 : hkV v n lo C H P i x y k = true ∧ ¬ v (620 + 6 * wV v i k + 1) = nI 1 := ⟨hkt, by rw [f0]; exact n0_1⟩
          rw [if_neg g1, if_pos g2, o2] at fin
          simp only [f0, if_true, if_false, ite_true, ite_false, not_true_eq_false, not_false_eq_true, true_or, or_true, false_or, or_false, and_self, ok_n0, ok_ni, ok_nr, ok_nl, va_rf_some, va_rf_none, true_and, and_true, List.length_nil, List.length_cons, Option.toList_some, Option.toList_none, List.cons_append, List.nil_append, rK_uA, rK_uI, rK_uJ, rK_uP, rP_uA, rP_uI, rP_uJ, rJ_uA, rJ_uI, rJ_uP, rI_uJ, rI_uP, rz_uA, rz_uI, rz_uJ, rz_uP, rs_uA, rs_uI, rs_uJ, rs_uP, Nat.reduceAdd, Nat.reduceMul, Nat.reduceSub, Nat.reduceLeDiff, Nat.reduceLT, Nat.reduceEqDiff, Nat.add_zero, Nat.zero_add, Nat.zero_le]
          exact fin
        · have g1 : hkV v n lo C H P i x y k = true ∧ v (620 + 6 * wV v i k + 1) = nI 1 := ⟨hkt, f1⟩
          have g2 : ¬ (hkV v n lo C H P i x y k = true ∧ ¬ v (620 + 6 * wV v i k + 1) = nI 1) := fun z => z.2 f1
          rw [if_pos g1, if_neg g2, o2] at fin
          simp only [f1, if_true, if_false, ite_true, ite_false, not_true_eq_false, not_false_eq_true, true_or, or_true, false_or, or_false, and_self, ok_n0, ok_ni, ok_nr, ok_nl, va_rf_some, va_rf_none, true_and, and_true, List.length_nil, List.length_cons, Option.toList_some, Option.toList_none, List.cons_append, List.nil_append, rK_uA, rK_uI, rK_uJ, rK_uP, rP_uA, rP_uI, rP_uJ, rJ_uA, rJ_uI, rJ_uP, rI_uJ, rI_uP, rz_uA, rz_uI, rz_uJ, rz_uP, rs_uA, rs_uI, rs_uJ, rs_uP, Nat.reduceAdd, Nat.reduceMul, Nat.reduceSub, Nat.reduceLeDiff, Nat.reduceLT, Nat.reduceEqDiff, Nat.add_zero, Nat.zero_add, Nat.zero_le, n1_0]
          by_cases c5 : mflV v i (hkV v n lo C H P i x y) k < nI 0
          · rw [if_pos (Or.inl c5)] at fin
            simp only [c5, if_true, if_false, ite_true, ite_false, not_true_eq_false, not_false_eq_true, true_or, or_true, false_or, or_false, and_self, ok_n0, ok_ni, ok_nr, ok_nl, va_rf_some, va_rf_none, true_and, and_true, List.length_nil, List.length_cons, Option.toList_some, Option.toList_none, List.cons_append, List.nil_append, rK_uA, rK_uI, rK_uJ, rK_uP, rP_uA, rP_uI, rP_uJ, rJ_uA, rJ_uI, rJ_uP, rI_uJ, rI_uP, rz_uA, rz_uI, rz_uJ, rz_uP, rs_uA, rs_uI, rs_uJ, rs_uP, Nat.reduceAdd, Nat.reduceMul, Nat.reduceSub, Nat.reduceLeDiff, Nat.reduceLT, Nat.reduceEqDiff, Nat.add_zero, Nat.zero_add, Nat.zero_le]
            exact fin
          · by_cases c6 : nI (wV v i k) = focV v i
            · rw [if_pos (Or.inr c6)] at fin
              simp only [c5, if_true, if_false, ite_true, ite_false, not_true_eq_false, not_false_eq_true, true_or, or_true, false_or, or_false, and_self, ok_n0, ok_ni, ok_nr, ok_nl, va_rf_some, va_rf_none, true_and, and_true, List.length_nil, List.length_cons, Option.toList_some, Option.toList_none, List.cons_append, List.nil_append, rK_uA, rK_uI, rK_uJ, rK_uP, rP_uA, rP_uI, rP_uJ, rJ_uA, rJ_uI, rJ_uP, rI_uJ, rI_uP, rz_uA, rz_uI, rz_uJ, rz_uP, rs_uA, rs_uI, rs_uJ, rs_uP, Nat.reduceAdd, Nat.reduceMul, Nat.reduceSub, Nat.reduceLeDiff, Nat.reduceLT, Nat.reduceEqDiff, Nat.add_zero, Nat.zero_add, Nat.zero_le]
              simp only [c6, if_true, if_false, ite_true, ite_false, not_true_eq_false, not_false_eq_true, true_or, or_true, false_or, or_false, and_self, ok_n0, ok_ni, ok_nr, ok_nl, va_rf_some, va_rf_none, true_and, and_true, List.length_nil, List.length_cons, Option.toList_some, Option.toList_none, List.cons_append, List.nil_append, rK_uA, rK_uI, rK_uJ, rK_uP, rP_uA, rP_uI, rP_uJ, rJ_uA, rJ_uI, rJ_uP, rI_uJ, rI_uP, rz_uA, rz_uI, rz_uJ, rz_uP, rs_uA, rs_uI, rs_uJ, rs_uP, Nat.reduceAdd, Nat.reduceMul, Nat.reduceSub, Nat.reduceLeDiff, Nat.reduceLT, Nat.reduceEqDiff, Nat.add_zero, Nat.zero_add, Nat.zero_le] at fin ⊢
              exact fin
            · rw [if_neg (by rintro (z | z); exact c5 z; exact c6 z)] at fin
              simp only [c5, c6, if_true, if_false, ite_true, ite_false, not_true_eq_false, not_false_eq_true, true_or, or_true, false_or, or_false, and_self, ok_n0, ok_ni, ok_nr, ok_nl, va_rf_some, va_rf_none, true_and, and_true, List.length_nil, List.length_cons, Option.toList_some, Option.toList_none, List.cons_append, List.nil_append, rK_uA, rK_uI, rK_uJ, rK_uP, rP_uA, rP_uI, rP_uJ, rJ_uA, rJ_uI, rJ_uP, rI_uJ, rI_uP, rz_uA, rz_uI, rz_uJ, rz_uP, rs_uA, rs_uI, rs_uJ, rs_uP, Nat.reduceAdd, Nat.reduceMul, Nat.reduceSub, Nat.reduceLeDiff, Nat.reduceLT, Nat.reduceEqDiff, Nat.add_zero, Nat.zero_add, Nat.zero_le]
              exact fin
theorem s_mat {M s j : Nat} (t : MV h M s v) (t2 : MK2 h M) (si : SI v n c p lo r rl) (q : RI v C H P) (x y : Int32) (hj : j < n) (hs : scat (bxV v) x y n 0 = nI j) (Q : Option Value × pm_H → Prop) (hQ : ∀ h', SCR M h h' → Q (some (.int (matV v (p j) (hkV v n lo C H P (p j) x y) (C (p j)))), h')) : pGo 171 0 [some (.ref M), some (.int x), some (.int y), none, none, none, none, none, none, none] [] h Q := by
  have n4 := si.n4
  obtain ⟨t1, -⟩ := id t
  rw [k171_0]
  simp (disch := omega) only [k171_1, k171_2, k171_3, if_true, if_false, ite_true, ite_false, not_true_eq_false, not_false_eq_true, true_or, or_true, false_or, or_false, and_self, ok_n0, ok_ni, ok_nr, ok_nl, va_rf_some, va_rf_none, true_and, and_true, List.length_nil, List.length_cons, Option.toList_some, Option.toList_none, List.cons_append, List.nil_append, rK_uA, rK_uI, rK_uJ, rK_uP, rP_uA, rP_uI, rP_uJ, rJ_uA, rJ_uI, rJ_uP, rI_uJ, rI_uP, rz_uA, rz_uI, rz_uJ, rz_uP, rs_uA, rs_uI, rs_uJ, rs_uP, Nat.reduceAdd, Nat.reduceMul, Nat.reduceSub, Nat.reduceLeDiff, Nat.reduceLT, Nat.reduceEqDiff, Nat.add_zero, Nat.zero_add, Nat.zero_le, t1.1]
  refine s_mscreenAt t t2 si x y _ (fun h' hS => ?_)
  have tH := t.scr hS
  obtain ⟨w1, w2, w3, w4⟩ := id tH
  have a0 : s + (21 + j) < 41160 := by omega
  simp (disch := omega) only [k171_0, k171_1, k171_2, k171_3, k171_6, k171_7, k171_8, k171_11, k171_12, k171_13, k171_14, k171_17, k171_18, k171_21, k171_23, k171_24, k171_25, k171_26, k171_27, k171_29, k171_30, k171_32, k171_35, k171_37, k171_38, k171_40, k171_41, k171_43, k171_44, k171_48, k171_49, k171_52, k171_54, k171_55, k171_56, k171_57, k171_60, k171_61, k171_64, k171_66, k171_67, k171_68, k171_70, k171_71, k171_72, k171_74, k171_75, k171_77, k171_80, k171_83, k171_84, k171_85, k171_86, k171_89, k171_92, k171_95, k171_96, k171_99, k171_100, k171_102, k171_105, k171_106, k171_107, k171_108, k171_111, k171_113, k171_115, k171_118, k171_120, k171_123, k171_125, k171_126, k171_128, k171_131, k171_134, k171_136, k171_138, k171_141, k171_144, k171_146, k171_149, k171_151, k171_154, k171_156, s_space tH, hs, if_true, if_false, ite_true, ite_false, not_true_eq_false, not_false_eq_true, true_or, or_true, false_or, or_false, and_self, ok_n0, ok_ni, ok_nr, ok_nl, va_rf_some, va_rf_none, true_and, and_true, List.length_nil, List.length_cons, Option.toList_some, Option.toList_none, List.cons_append, List.nil_append, rK_uA, rK_uI, rK_uJ, rK_uP, rP_uA, rP_uI, rP_uJ, rJ_uA, rJ_uI, rJ_uP, rI_uJ, rI_uP, rz_uA, rz_uI, rz_uJ, rz_uP, rs_uA, rs_uI, rs_uJ, rs_uP, Nat.reduceAdd, Nat.reduceMul, Nat.reduceSub, Nat.reduceLeDiff, Nat.reduceLT, Nat.reduceEqDiff, Nat.add_zero, Nat.zero_add, Nat.zero_le, w1.1, w1.2.1, w1.2.2.1, w2, ar_add, ar_oki, ar_cl, ar_le, Nat.add_assoc s, w4, si.sh j hj, a0]
  exact s_at_loop t t2 si q (si.pj hj).1 x y Q hQ (C (p j)) 0 h' none (by omega) hS
theorem s_mat_no {M s : Nat} (t : MV h M s v) (t2 : MK2 h M) (si : SI v n c p lo r rl) (x y : Int32) (hs : scat (bxV v) x y n 0 = -1) (Q : Option Value × pm_H → Prop) (hQ : ∀ h', SCR M h h' → Q (some (.int (-1)), h')) : pGo 171 0 [some (.ref M), some (.int x), some (.int y), none, none, none, none, none, none, none] [] h Q := by
  obtain ⟨t1, -⟩ := id t
  rw [k171_0]
  simp (disch := omega) only [k171_1, k171_2, k171_3, if_true, if_false, ite_true, ite_false, not_true_eq_false, not_false_eq_true, true_or, or_true, false_or, or_false, and_self, ok_n0, ok_ni, ok_nr, ok_nl, va_rf_some, va_rf_none, true_and, and_true, List.length_nil, List.length_cons, Option.toList_some, Option.toList_none, List.cons_append, List.nil_append, rK_uA, rK_uI, rK_uJ, rK_uP, rP_uA, rP_uI, rP_uJ, rJ_uA, rJ_uI, rJ_uP, rI_uJ, rI_uP, rz_uA, rz_uI, rz_uJ, rz_uP, rs_uA, rs_uI, rs_uJ, rs_uP, Nat.reduceAdd, Nat.reduceMul, Nat.reduceSub, Nat.reduceLeDiff, Nat.reduceLT, Nat.reduceEqDiff, Nat.add_zero, Nat.zero_add, Nat.zero_le, t1.1]
  refine s_mscreenAt t t2 si x y _ (fun h' hS => ?_)
  simp (disch := omega) only [k171_0, k171_1, k171_2, k171_3, k171_6, k171_7, k171_8, k171_11, k171_12, k171_13, k171_14, k171_17, k171_18, k171_21, k171_23, k171_24, k171_25, k171_26, k171_27, k171_29, k171_30, k171_32, k171_35, k171_37, k171_38, k171_40, k171_41, k171_43, k171_44, k171_48, k171_49, k171_52, k171_54, k171_55, k171_56, k171_57, k171_60, k171_61, k171_64, k171_66, k171_67, k171_68, k171_70, k171_71, k171_72, k171_74, k171_75, k171_77, k171_80, k171_83, k171_84, k171_85, k171_86, k171_89, k171_92, k171_95, k171_96, k171_99, k171_100, k171_102, k171_105, k171_106, k171_107, k171_108, k171_111, k171_113, k171_115, k171_118, k171_120, k171_123, k171_125, k171_126, k171_128, k171_131, k171_134, k171_136, k171_138, k171_141, k171_144, k171_146, k171_149, k171_151, k171_154, k171_156, hs, if_true, if_false, ite_true, ite_false, not_true_eq_false, not_false_eq_true, true_or, or_true, false_or, or_false, and_self, ok_n0, ok_ni, ok_nr, ok_nl, va_rf_some, va_rf_none, true_and, and_true, List.length_nil, List.length_cons, Option.toList_some, Option.toList_none, List.cons_append, List.nil_append, rK_uA, rK_uI, rK_uJ, rK_uP, rP_uA, rP_uI, rP_uJ, rJ_uA, rJ_uI, rJ_uP, rI_uJ, rI_uP, rz_uA, rz_uI, rz_uJ, rz_uP, rs_uA, rs_uI, rs_uJ, rs_uP, Nat.reduceAdd, Nat.reduceMul, Nat.reduceSub, Nat.reduceLeDiff, Nat.reduceLT, Nat.reduceEqDiff, Nat.add_zero, Nat.zero_add, Nat.zero_le, show ¬ nI 0 ≤ (-1 : Int32) by decide +kernel]
  exact hQ h' hS
end INV
