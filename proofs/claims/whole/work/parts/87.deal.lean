/-! DEAL -/
def DL1 (h0 : pm_H) (h : pm_H) (d : Nat) (k : Nat) (ro : Nat → Nat) : Prop := (FRD (d + 39) (d + 50) h0 h) ∧ (∀ q, ¬ q = d + 39 + 9 → ¬ q = d + 39 + 10 → rI h q = rI h0 q) ∧ (rI h (d + 39 + 9) 1 = nI (8 - k)) ∧ (∀ x, x < 8 - k → rI h (d + 39 + 10) x = nI (ro (k + 1 + x)))
theorem DL1.f {h0 : pm_H} {h : pm_H} {d : Nat} {k : Nat} {ro : Nat → Nat} (x_ : DL1 h0 h d k ro) : FRD (d + 39) (d + 50) h0 h := x_.1
theorem DL1.o {h0 : pm_H} {h : pm_H} {d : Nat} {k : Nat} {ro : Nat → Nat} (x_ : DL1 h0 h d k ro) : ∀ q, ¬ q = d + 39 + 9 → ¬ q = d + 39 + 10 → rI h q = rI h0 q := x_.2.1
theorem DL1.z {h0 : pm_H} {h : pm_H} {d : Nat} {k : Nat} {ro : Nat → Nat} (x_ : DL1 h0 h d k ro) : rI h (d + 39 + 9) 1 = nI (8 - k) := x_.2.2.1
theorem DL1.y {h0 : pm_H} {h : pm_H} {d : Nat} {k : Nat} {ro : Nat → Nat} (x_ : DL1 h0 h d k ro) : ∀ x, x < 8 - k → rI h (d + 39 + 10) x = nI (ro (k + 1 + x)) := x_.2.2.2
def DL2 (h0 : pm_H) (h : pm_H) (d : Nat) (i : Nat) (wt : Nat) (W : Nat → Int32) (ro : Nat → Nat) : Prop := (FRD (d + 39) (d + 50) h0 h) ∧ (rI h (d + 39) 2 = nI wt) ∧ (rI h (d + 39) 3 = nI 0) ∧ (rI h (d + 39 + 7) 1 = nI (i - 1)) ∧ (rI h (d + 39 + 9) 1 = nI (9 - i)) ∧ (∀ j, j < i → rI h (d + 39 + 6) j = nI (ro j)) ∧ (∀ j c, j < i → c < 4 → rI h (d + 39 + 2 + j) c = W (4 * j + c)) ∧ (∀ k, k < i - 1 → rI h (d + 39 + 8) k = nI (k + 1)) ∧ (∀ x, x < 9 - i → rI h (d + 39 + 10) x = nI (ro (i + x)))
theorem DL2.f {h0 : pm_H} {h : pm_H} {d : Nat} {i : Nat} {wt : Nat} {W : Nat → Int32} {ro : Nat → Nat} (x_ : DL2 h0 h d i wt W ro) : FRD (d + 39) (d + 50) h0 h := x_.1
theorem DL2.many {h0 : pm_H} {h : pm_H} {d : Nat} {i : Nat} {wt : Nat} {W : Nat → Int32} {ro : Nat → Nat} (x_ : DL2 h0 h d i wt W ro) : rI h (d + 39) 2 = nI wt := x_.2.1
theorem DL2.cur {h0 : pm_H} {h : pm_H} {d : Nat} {i : Nat} {wt : Nat} {W : Nat → Int32} {ro : Nat → Nat} (x_ : DL2 h0 h d i wt W ro) : rI h (d + 39) 3 = nI 0 := x_.2.2.1
theorem DL2.vsz {h0 : pm_H} {h : pm_H} {d : Nat} {i : Nat} {wt : Nat} {W : Nat → Int32} {ro : Nat → Nat} (x_ : DL2 h0 h d i wt W ro) : rI h (d + 39 + 7) 1 = nI (i - 1) := x_.2.2.2.1
theorem DL2.hsz {h0 : pm_H} {h : pm_H} {d : Nat} {i : Nat} {wt : Nat} {W : Nat → Int32} {ro : Nat → Nat} (x_ : DL2 h0 h d i wt W ro) : rI h (d + 39 + 9) 1 = nI (9 - i) := x_.2.2.2.2.1
theorem DL2.ws {h0 : pm_H} {h : pm_H} {d : Nat} {i : Nat} {wt : Nat} {W : Nat → Int32} {ro : Nat → Nat} (x_ : DL2 h0 h d i wt W ro) : ∀ j, j < i → rI h (d + 39 + 6) j = nI (ro j) := x_.2.2.2.2.2.1
theorem DL2.bx {h0 : pm_H} {h : pm_H} {d : Nat} {i : Nat} {wt : Nat} {W : Nat → Int32} {ro : Nat → Nat} (x_ : DL2 h0 h d i wt W ro) : ∀ j c, j < i → c < 4 → rI h (d + 39 + 2 + j) c = W (4 * j + c) := x_.2.2.2.2.2.2.1
theorem DL2.vis {h0 : pm_H} {h : pm_H} {d : Nat} {i : Nat} {wt : Nat} {W : Nat → Int32} {ro : Nat → Nat} (x_ : DL2 h0 h d i wt W ro) : ∀ k, k < i - 1 → rI h (d + 39 + 8) k = nI (k + 1) := x_.2.2.2.2.2.2.2.1
theorem DL2.hid {h0 : pm_H} {h : pm_H} {d : Nat} {i : Nat} {wt : Nat} {W : Nat → Int32} {ro : Nat → Nat} (x_ : DL2 h0 h d i wt W ro) : ∀ x, x < 9 - i → rI h (d + 39 + 10) x = nI (ro (i + x)) := x_.2.2.2.2.2.2.2.2
section DEAL
variable {v : Nat → Int32} {n c : Nat} {p lo r rl : Nat → Nat}
theorem deal_a {h0 : pm_H} {d : Nat} (D : DVS h0 d v n) (s : SI v n c p lo r rl) (g : Nat) (w : Int32) : ∀ k, k ≤ n - 1 → ∀ h, DL1 h0 h d k (roN n p r) → ∃ h', DL1 h0 h' d 0 (roN n p r) ∧ ∀ Q, pGo 82 10 [some (.ref (d + 39)), some (.ref g), some (.int w), some (.int (nI k - nI 1))] [] h Q = pGo 82 40 [some (.ref (d + 39)), some (.ref g), some (.int w), some (.int (-1))] [] h' Q := by
  have n4 := s.n4
  have n1 := s.n1
  obtain ⟨k0, k1, k2, k3, k4, k5, k6, k7, k8, k9, k10, k11, k12, k13, k14⟩ := D.k
  intro k
  induction k with
  | zero =>
    intro _ h a
    refine ⟨h, a, fun Q => ?_⟩
    rw [k82_10]
    simp (disch := omega) only [k82_11, show nI 0 - nI 1 = (-1 : Int32) by decide +kernel, show (-1 : Int32) < nI 0 by decide +kernel, if_true, if_false, ite_true, ite_false, not_true_eq_false, not_false_eq_true, true_or, or_true, false_or, or_false, and_self, ok_n0, ok_ni, ok_nr, ok_nl, va_rf_some, va_rf_none, true_and, and_true, List.length_nil, List.length_cons, Option.toList_some, Option.toList_none, List.cons_append, List.nil_append, rK_uA, rK_uI, rK_uJ, rK_uP, rP_uA, rP_uI, rP_uJ, rJ_uA, rJ_uI, rJ_uP, rI_uJ, rI_uP, rz_uA, rz_uI, rz_uJ, rz_uP, rs_uA, rs_uI, rs_uJ, rs_uP, Nat.reduceAdd, Nat.reduceMul, Nat.reduceSub, Nat.reduceLeDiff, Nat.reduceLT, Nat.reduceEqDiff, Nat.add_zero, Nat.zero_add, Nat.zero_le]
  | succ k ih =>
    intro hk h a
    have e0 : nI (k + 1) - nI 1 = nI k := by rw [ar_sub (by omega)]; rfl
    have c1 : ¬ k < 0 := by omega
    have rk := s.rr.1 (k + 1) (by omega)
    have sc : SC h (d + 39) n c (n - 1) (8 - (k + 1)) := by
      have cn := s.cn
      refine ⟨?_, ?_, s.n4, ?_, by omega, ?_, by omega, a.z, by omega⟩
      · have := D.k
        unfold SCK at *
        rw [a.f.fk, a.f.fp]; exact this
      · rw [a.o _ (by omega) (by omega)]; exact D.many.trans s.v0
      · rw [a.o _ (by omega) (by omega)]; exact D.cur.trans s.v1
      · rw [a.o _ (by omega) (by omega)]; exact D.vsz
    have l := sc.hid
    have xv := s_Line_get sc.vis (nI k)
    rw [lget_nI (show k < n - 1 by omega) (by omega), a.o _ (by omega) (by omega), D.vis k (by omega), s.vs k (by omega)] at xv
    have xw := s_Screens_workspaceOf sc (nI (r (k + 1)))
    rw [lget_nI rk.1 (by omega), a.o _ (by omega) (by omega), D.ws _ rk.1, s.sh _ rk.1] at xw
    have xi := s_Line_insertAt l (Nat.zero_le _) (show 8 - (k + 1) < 9 by omega) (nI (p (r (k + 1))))
    have a' : DL1 h0 (uI (uA h (d + 39 + 10) (lins (rI h (d + 39 + 10)) 0 (8 - (k + 1)) (nI (p (r (k + 1)))))) (d + 39 + 9) 1 (nI (8 - (k + 1) + 1))) d k (roN n p r) := by
      refine ⟨(a.f.tr (FRD.uA _ (by omega) (by omega) _)).tr (FRD.uI _ (by omega) (by omega) _ _), fun q h1 h2 => ?_, ?_, fun x hx => ?_⟩
      · rw [rI_uI, if_neg h1, rI_uA, if_neg h2]; exact a.o q h1 h2
      · rw [rI_uI, if_pos rfl, pk_us]; congr 1; omega
      · rw [rI_uI, if_neg (by omega), rI_uA, if_pos rfl, lins_at _ _ (Nat.zero_le _)]
        by_cases x0 : x = 0
        · rw [if_pos x0, x0]
          simp only [roN, show k + 1 + 0 < n by omega, if_true, Nat.add_zero]
        · rw [if_neg x0, if_pos (by omega), a.y _ (by omega)]
          congr 2; omega
    obtain ⟨h', a2, e2⟩ := ih (by omega) _ a'
    refine ⟨h', a2, fun Q => ?_⟩
    rw [← e2 Q, e0, k82_10]
    simp (disch := omega) only [k82_0, k82_1, k82_4, k82_7, k82_8, k82_9, k82_11, k82_14, k82_15, k82_18, k82_19, k82_20, k82_21, k82_24, k82_25, k82_28, k82_31, k82_34, k82_37, k82_41, k82_44, k82_45, k82_46, k82_49, k82_52, k82_53, k82_56, k82_57, k82_60, k82_61, k82_62, k82_63, k82_66, k82_69, k82_70, k82_71, k82_74, k82_75, k82_77, k82_78, k82_81, k82_84, k82_85, k82_88, k82_89, k82_90, k82_91, k82_92, k82_93, k82_96, k82_97, k82_100, k82_101, k82_102, k82_105, k82_106, k82_109, k82_110, k82_111, k82_114, k82_115, k82_118, k82_119, k82_122, k82_123, k82_126, k82_127, k82_128, k82_129, k82_130, k82_133, k82_136, k82_139, xv, xw, xi, if_true, if_false, ite_true, ite_false, not_true_eq_false, not_false_eq_true, true_or, or_true, false_or, or_false, and_self, ok_n0, ok_ni, ok_nr, ok_nl, va_rf_some, va_rf_none, true_and, and_true, List.length_nil, List.length_cons, Option.toList_some, Option.toList_none, List.cons_append, List.nil_append, rK_uA, rK_uI, rK_uJ, rK_uP, rP_uA, rP_uI, rP_uJ, rJ_uA, rJ_uI, rJ_uP, rI_uJ, rI_uP, rz_uA, rz_uI, rz_uJ, rz_uP, rs_uA, rs_uI, rs_uJ, rs_uP, Nat.reduceAdd, Nat.reduceMul, Nat.reduceSub, Nat.reduceLeDiff, Nat.reduceLT, Nat.reduceEqDiff, Nat.add_zero, Nat.zero_add, Nat.zero_le, k0, k7, k8, k11, k12, a.f.fk, a.f.fp, ar_lt, c1, sub1_m1]
theorem deal_b {h0 : pm_H} {d g wt : Nat} {W : Nat → Int32} {ro : Nat → Nat} (K : SCK h0 (d + 39)) (h4 : wt ≤ 4) (gk : rK h0 g = (4, 4)) (gp : ∀ j, j < 4 → rP h0 g j = some (g + 1 + j)) (gb : ∀ j, j < 4 → rK h0 (g + 1 + j) = (1, 0)) (gw : ∀ j c, j < wt → c < 4 → rI h0 (g + 1 + j) c = W (4 * j + c)) (go : g + 5 ≤ d ∨ d + 53 ≤ g) (hro : ∀ j, j < 9 → ro j < 9) : ∀ m i, i + m = wt → ∀ h, DL2 h0 h d i wt W ro → ∃ h', DL2 h0 h' d wt wt W ro ∧ ∀ Q, pGo 82 76 [some (.ref (d + 39)), some (.ref g), some (.int (nI wt)), some (.int (nI i))] [] h Q = Q (none, h') := by
  obtain ⟨k0, k1, k2, k3, k4, k5, k6, k7, k8, k9, k10, k11, k12, k13, k14⟩ := id K
  intro m
  induction m with
  | zero =>
    intro i hi h a
    have hi : i = wt := by omega
    subst hi
    refine ⟨h, a, fun Q => ?_⟩
    rw [k82_76]
    simp (disch := omega) only [k82_0, k82_1, k82_4, k82_7, k82_8, k82_9, k82_11, k82_14, k82_15, k82_18, k82_19, k82_20, k82_21, k82_24, k82_25, k82_28, k82_31, k82_34, k82_37, k82_41, k82_44, k82_45, k82_46, k82_49, k82_52, k82_53, k82_56, k82_57, k82_60, k82_61, k82_62, k82_63, k82_66, k82_69, k82_70, k82_71, k82_74, k82_75, k82_77, k82_78, k82_81, k82_84, k82_85, k82_88, k82_89, k82_90, k82_91, k82_92, k82_93, k82_96, k82_97, k82_100, k82_101, k82_102, k82_105, k82_106, k82_109, k82_110, k82_111, k82_114, k82_115, k82_118, k82_119, k82_122, k82_123, k82_126, k82_127, k82_128, k82_129, k82_130, k82_133, k82_136, k82_139, if_true, if_false, ite_true, ite_false, not_true_eq_false, not_false_eq_true, true_or, or_true, false_or, or_false, and_self, ok_n0, ok_ni, ok_nr, ok_nl, va_rf_some, va_rf_none, true_and, and_true, List.length_nil, List.length_cons, Option.toList_some, Option.toList_none, List.cons_append, List.nil_append, rK_uA, rK_uI, rK_uJ, rK_uP, rP_uA, rP_uI, rP_uJ, rJ_uA, rJ_uI, rJ_uP, rI_uJ, rI_uP, rz_uA, rz_uI, rz_uJ, rz_uP, rs_uA, rs_uI, rs_uJ, rs_uP, Nat.reduceAdd, Nat.reduceMul, Nat.reduceSub, Nat.reduceLeDiff, Nat.reduceLT, Nat.reduceEqDiff, Nat.add_zero, Nat.zero_add, Nat.zero_le, k0, a.f.fk, a.many, ar_le, Nat.le_refl]
  | succ m ih =>
    intro i hi h a
    have i4 : i < 4 := by omega
    have c1 : ¬ wt ≤ i := by omega
    have xb : ∀ H : pm_H, rK H = rK h0 → ∀ Q, pGo 2 0 [some (.ref (d + 39 + 2 + i)), some (.ref (g + 1 + i))] [] H Q = Q (none, uA H (d + 39 + 2 + i) (bx4 (rI H (d + 39 + 2 + i)) (rI H (g + 1 + i) 0) (rI H (g + 1 + i) 1) (rI H (g + 1 + i) 2) (rI H (g + 1 + i) 3))) := fun H e Q => s_Box_fill (by rw [e]; exact k4 i i4) (by rw [e]; exact gb i i4) Q
    have x1 := xb h a.f.fk
    have ea : ∀ c, c < 4 → rI h (g + 1 + i) c = W (4 * i + c) := fun c hc => by
      rw [a.f.fi _ (by omega)]; exact gw i c (by omega) hc
    rw [ea 0 (by omega), ea 1 (by omega), ea 2 (by omega), ea 3 (by omega)] at x1
    generalize hh1 : uA h (d + 39 + 2 + i) (bx4 (rI h (d + 39 + 2 + i)) (W (4 * i + 0)) (W (4 * i + 1)) (W (4 * i + 2)) (W (4 * i + 3))) = h1 at x1
    have f1 : FRD (d + 39) (d + 50) h0 h1 := by rw [← hh1]; exact a.f.tr (FRD.uA _ (by omega) (by omega) _)
    have r1 : ∀ q, ¬ q = d + 39 + 2 + i → rI h1 q = rI h q := fun q hq => by rw [← hh1, rI_uA, if_neg hq]
    have lh : LN h1 (d + 39 + 9) (d + 39 + 10) 9 (9 - i) := ⟨by rw [f1.fk]; exact k12, by rw [f1.fp]; exact k13, by rw [f1.fk]; exact k14, by omega, by rw [r1 _ (by omega)]; exact a.hsz, by omega, by omega⟩
    have x2 := s_Line_get lh (nI 0)
    rw [lget_nI (by omega) (by omega), r1 _ (by omega), a.hid 0 (by omega), Nat.add_zero] at x2
    generalize hh2 : uI h1 (d + 39 + 6) i (nI (ro i)) = h2
    have f2 : FRD (d + 39) (d + 50) h0 h2 := by rw [← hh2]; exact f1.tr (FRD.uI _ (by omega) (by omega) _ _)
    have r2 : ∀ q, ¬ q = d + 39 + 6 → rI h2 q = rI h1 q := fun q hq => by rw [← hh2, rI_uI, if_neg hq]
    have lh2 : LN h2 (d + 39 + 9) (d + 39 + 10) 9 (9 - i) := by rw [← hh2]; exact lh.uI_o (by omega) _ _
    have x3 := s_Line_removeAt lh2 (p := 0) (by omega)
    generalize hh3 : uA (uI h2 (d + 39 + 9) 1 (nI (9 - i - 1))) (d + 39 + 10) (lrem (rI h2 (d + 39 + 10)) 0 (9 - i)) = h3 at x3
    have f3 : FRD (d + 39) (d + 50) h0 h3 := by rw [← hh3]; exact (f2.tr (FRD.uI _ (by omega) (by omega) _ _)).tr (FRD.uA _ (by omega) (by omega) _)
    have r3 : ∀ q, ¬ q = d + 39 + 9 → ¬ q = d + 39 + 10 → rI h3 q = rI h2 q := fun q hq hq2 => by rw [← hh3, rI_uA, if_neg hq2, rI_uI, if_neg hq]
    have z9 : rI h3 (d + 39 + 9) 1 = nI (9 - (i + 1)) := by rw [← hh3, rI_uA, if_neg (by omega), rI_uI, if_pos rfl, pk_us]; congr 1
    have z10 : ∀ x, x < 9 - (i + 1) → rI h3 (d + 39 + 10) x = nI (ro (i + 1 + x)) := fun x hx => by
      rw [← hh3, rI_uA, if_pos rfl, lrem_at, if_pos (by omega), r2 _ (by omega), r1 _ (by omega), a.hid _ (by omega)]; congr 2; omega
    have z6 : ∀ j, j < i + 1 → rI h3 (d + 39 + 6) j = nI (ro j) := fun j hj => by
      rw [r3 _ (by omega) (by omega), ← hh2, rI_uI, if_pos rfl, upd_at]
      by_cases e : j = i
      · rw [if_pos e, e]
      · rw [if_neg e, r1 _ (by omega)]; exact a.ws j (by omega)
    have zb : ∀ j c, j < i + 1 → c < 4 → rI h3 (d + 39 + 2 + j) c = W (4 * j + c) := fun j cc hj hc => by
      rw [r3 _ (by omega) (by omega), r2 _ (by omega)]
      by_cases e : j = i
      · subst e
        rw [← hh1, rI_uA, if_pos rfl]
        rcases (show cc = 0 ∨ cc = 1 ∨ cc = 2 ∨ cc = 3 by omega) with rfl | rfl | rfl | rfl
        · exact bx4_0 _ _ _ _ _
        · exact bx4_1 _ _ _ _ _
        · exact bx4_2 _ _ _ _ _
        · exact bx4_3 _ _ _ _ _
      · rw [r1 _ (by omega)]; exact a.bx j cc (by omega) hc
    have m3 : rI h3 (d + 39) = rI h (d + 39) := by rw [r3 _ (by omega) (by omega), r2 _ (by omega), r1 _ (by omega)]
    have v7 : rI h3 (d + 39 + 7) = rI h (d + 39 + 7) := by rw [r3 _ (by omega) (by omega), r2 _ (by omega), r1 _ (by omega)]
    have v8 : rI h3 (d + 39 + 8) = rI h (d + 39 + 8) := by rw [r3 _ (by omega) (by omega), r2 _ (by omega), r1 _ (by omega)]
    by_cases i0 : i = 0
    · subst i0
      have a' : DL2 h0 h3 d (0 + 1) wt W ro := ⟨f3, by rw [m3]; exact a.many, by rw [m3]; exact a.cur, by rw [v7]; exact a.vsz, z9, z6, zb, fun k hk => absurd hk (by omega), z10⟩
      obtain ⟨h', b, e⟩ := ih (0 + 1) (by omega) _ a'
      refine ⟨h', b, fun Q => ?_⟩
      rw [← e Q, k82_76]
      simp (disch := omega) only [k82_0, k82_1, k82_4, k82_7, k82_8, k82_9, k82_11, k82_14, k82_15, k82_18, k82_19, k82_20, k82_21, k82_24, k82_25, k82_28, k82_31, k82_34, k82_37, k82_41, k82_44, k82_45, k82_46, k82_49, k82_52, k82_53, k82_56, k82_57, k82_60, k82_61, k82_62, k82_63, k82_66, k82_69, k82_70, k82_71, k82_74, k82_75, k82_77, k82_78, k82_81, k82_84, k82_85, k82_88, k82_89, k82_90, k82_91, k82_92, k82_93, k82_96, k82_97, k82_100, k82_101, k82_102, k82_105, k82_106, k82_109, k82_110, k82_111, k82_114, k82_115, k82_118, k82_119, k82_122, k82_123, k82_126, k82_127, k82_128, k82_129, k82_130, k82_133, k82_136, k82_139, x1, x2, hh2, x3, if_true, if_false, ite_true, ite_false, not_true_eq_false, not_false_eq_true, true_or, or_true, false_or, or_false, and_self, ok_n0, ok_ni, ok_nr, ok_nl, va_rf_some, va_rf_none, true_and, and_true, List.length_nil, List.length_cons, Option.toList_some, Option.toList_none, List.cons_append, List.nil_append, rK_uA, rK_uI, rK_uJ, rK_uP, rP_uA, rP_uI, rP_uJ, rJ_uA, rJ_uI, rJ_uP, rI_uJ, rI_uP, rz_uA, rz_uI, rz_uJ, rz_uP, rs_uA, rs_uI, rs_uJ, rs_uP, Nat.reduceAdd, Nat.reduceMul, Nat.reduceSub, Nat.reduceLeDiff, Nat.reduceLT, Nat.reduceEqDiff, Nat.add_zero, Nat.zero_add, Nat.zero_le, k0, k1, k2, k3 0 i4, k4 0 i4, k5, k6, k11, k12, gk, gp 0 i4, gb 0 i4, a.f.fk, a.f.fp, f1.fk, f1.fp, f2.fk, f2.fp, f3.fk, f3.fp, a.many, ar_le, ar_add, ar_okr, ar_okw, ar_cl, c1, i4, Nat.le_refl]
    · have lv : LN h3 (d + 39 + 7) (d + 39 + 8) 4 (i - 1) := ⟨by rw [f3.fk]; exact k8, by rw [f3.fp]; exact k9, by rw [f3.fk]; exact k10, by omega, by rw [v7]; exact a.vsz, by omega, by omega⟩
      have x4 := s_Line_insertAt lv (p := i - 1) (by omega) (by omega) (nI i)
      generalize hh4 : uI (uA h3 (d + 39 + 8) (lins (rI h3 (d + 39 + 8)) (i - 1) (i - 1) (nI i))) (d + 39 + 7) 1 (nI (i - 1 + 1)) = h4 at x4
      have f4 : FRD (d + 39) (d + 50) h0 h4 := by rw [← hh4]; exact (f3.tr (FRD.uA _ (by omega) (by omega) _)).tr (FRD.uI _ (by omega) (by omega) _ _)
      have r4 : ∀ q, ¬ q = d + 39 + 7 → ¬ q = d + 39 + 8 → rI h4 q = rI h3 q := fun q hq hq2 => by rw [← hh4, rI_uI, if_neg hq, rI_uA, if_neg hq2]
      have a' : DL2 h0 h4 d (i + 1) wt W ro := by
        refine ⟨f4, by rw [r4 _ (by omega) (by omega), m3]; exact a.many, by rw [r4 _ (by omega) (by omega), m3]; exact a.cur, ?_, by rw [r4 _ (by omega) (by omega)]; exact z9, fun j hj => by rw [r4 _ (by omega) (by omega)]; exact z6 j hj, fun j c hj hc => by rw [r4 _ (by omega) (by omega)]; exact zb j c hj hc, fun k hk => ?_, fun x hx => by rw [r4 _ (by omega) (by omega)]; exact z10 x hx⟩
        · rw [← hh4, rI_uI, if_pos rfl, pk_us]; congr 1; omega
        · rw [← hh4, rI_uI, if_neg (by omega), rI_uA, if_pos rfl, lins_at _ _ (Nat.le_refl _)]
          by_cases e : k = i - 1
          · rw [if_pos e, e]; congr 1; omega
          · rw [if_neg e, if_neg (by omega), v8]; exact a.vis k (by omega)
      obtain ⟨h', b, e⟩ := ih (i + 1) (by omega) _ a'
      refine ⟨h', b, fun Q => ?_⟩
      have c2 : ¬ i ≤ 0 := by omega
      have c3 : 1 ≤ i := by omega
      rw [← e Q, k82_76]
      simp (disch := omega) only [k82_0, k82_1, k82_4, k82_7, k82_8, k82_9, k82_11, k82_14, k82_15, k82_18, k82_19, k82_20, k82_21, k82_24, k82_25, k82_28, k82_31, k82_34, k82_37, k82_41, k82_44, k82_45, k82_46, k82_49, k82_52, k82_53, k82_56, k82_57, k82_60, k82_61, k82_62, k82_63, k82_66, k82_69, k82_70, k82_71, k82_74, k82_75, k82_77, k82_78, k82_81, k82_84, k82_85, k82_88, k82_89, k82_90, k82_91, k82_92, k82_93, k82_96, k82_97, k82_100, k82_101, k82_102, k82_105, k82_106, k82_109, k82_110, k82_111, k82_114, k82_115, k82_118, k82_119, k82_122, k82_123, k82_126, k82_127, k82_128, k82_129, k82_130, k82_133, k82_136, k82_139, x1, x2, hh2, x3, x4, if_true, if_false, ite_true, ite_false, not_true_eq_false, not_false_eq_true, true_or, or_true, false_or, or_false, and_self, ok_n0, ok_ni, ok_nr, ok_nl, va_rf_some, va_rf_none, true_and, and_true, List.length_nil, List.length_cons, Option.toList_some, Option.toList_none, List.cons_append, List.nil_append, rK_uA, rK_uI, rK_uJ, rK_uP, rP_uA, rP_uI, rP_uJ, rJ_uA, rJ_uI, rJ_uP, rI_uJ, rI_uP, rz_uA, rz_uI, rz_uJ, rz_uP, rs_uA, rs_uI, rs_uJ, rs_uP, Nat.reduceAdd, Nat.reduceMul, Nat.reduceSub, Nat.reduceLeDiff, Nat.reduceLT, Nat.reduceEqDiff, Nat.add_zero, Nat.zero_add, Nat.zero_le, k0, k1, k2, k3 i i4, k4 i i4, k5, k6, k7, k8, k11, k12, gk, gp i i4, gb i i4, a.f.fk, a.f.fp, f1.fk, f1.fp, f2.fk, f2.fp, f3.fk, f3.fp, f4.fk, f4.fp, a.many, ar_le, ar_add, ar_sub, ar_okr, ar_okw, ar_cl, c1, c2, i4]
theorem deal_all {h : pm_H} {d g wt : Nat} {W : Nat → Int32} (D : DVS h d v n) (s : SI v n c p lo r rl) (h1 : 1 ≤ wt) (h4 : wt ≤ 4) (gk : rK h g = (4, 4)) (gp : ∀ j, j < 4 → rP h g j = some (g + 1 + j)) (gb : ∀ j, j < 4 → rK h (g + 1 + j) = (1, 0)) (gw : ∀ j c, j < wt → c < 4 → rI h (g + 1 + j) c = W (4 * j + c)) (go : g + 5 ≤ d ∨ d + 53 ≤ g) : ∃ h', (∀ Q, pGo 82 0 [some (.ref (d + 39)), some (.ref g), some (.int (nI wt)), none] [] h Q = Q (none, h')) ∧ DVS h' d (newV v wt W (roN n p r)) wt ∧ FRD (d + 39) (d + 50) h h' := by
  have n4 := s.n4
  have n1 := s.n1
  have cn := s.cn
  obtain ⟨k0, k1, k2, k3, k4, k5, k6, k7, k8, k9, k10, k11, k12, k13, k14⟩ := id D.k
  have a0 : DL1 h h d (n - 1) (roN n p r) := by
    refine ⟨FRD.rf _ _ _, fun q _ _ => rfl, ?_, fun x hx => ?_⟩
    · rw [D.hsz]; congr 1; omega
    · rw [D.hid x (by omega), s.hd x (by omega)]
      simp only [roN, show ¬ n - 1 + 1 + x < n by omega, if_false]
      congr 2; omega
  obtain ⟨ha, a1, ea⟩ := deal_a D s g (nI wt) (n - 1) (Nat.le_refl _) h a0
  have sc : SC ha (d + 39) n c (n - 1) (8 - 0) := by
    refine ⟨?_, ?_, s.n4, ?_, by omega, ?_, by omega, a1.z, by omega⟩
    · have := D.k
      unfold SCK at *
      rw [a1.f.fk, a1.f.fp]; exact this
    · rw [a1.o _ (by omega) (by omega)]; exact D.many.trans s.v0
    · rw [a1.o _ (by omega) (by omega)]; exact D.cur.trans s.v1
    · rw [a1.o _ (by omega) (by omega)]; exact D.vsz
  have xc := s_Screens_currentWorkspace sc
  rw [a1.o _ (by omega) (by omega), D.ws c cn, s.sh c cn] at xc
  have xi := s_Line_insertAt sc.hid (Nat.zero_le _) (show 8 - 0 < 9 by omega) (nI (p c))
  generalize hh2 : uI (uA ha (d + 39 + 10) (lins (rI ha (d + 39 + 10)) 0 (8 - 0) (nI (p c)))) (d + 39 + 9) 1 (nI (8 - 0 + 1)) = h2 at xi
  have f2 : FRD (d + 39) (d + 50) h h2 := by rw [← hh2]; exact (a1.f.tr (FRD.uA _ (by omega) (by omega) _)).tr (FRD.uI _ (by omega) (by omega) _ _)
  have z10 : ∀ x, x < 9 - 0 → rI h2 (d + 39 + 10) x = nI (roN n p r (0 + x)) := fun x hx => by
    rw [← hh2, rI_uI, if_neg (by omega), rI_uA, if_pos rfl, lins_at _ _ (Nat.zero_le _)]
    by_cases x0 : x = 0
    · rw [if_pos x0, x0]
      simp only [roN, show 0 + 0 < n by omega, if_true, Nat.add_zero, s.r0]
    · rw [if_neg x0, if_pos (by omega), a1.y _ (by omega)]
      congr 2; omega
  have z9 : rI h2 (d + 39 + 9) 1 = nI (9 - 0) := by rw [← hh2, rI_uI, if_pos rfl, pk_us]
  generalize hh3 : uI (uI (uI h2 (d + 39 + 7) 1 (nI 0)) (d + 39) 2 (nI wt)) (d + 39) 3 (nI 0) = h3
  have f3 : FRD (d + 39) (d + 50) h h3 := by rw [← hh3]; exact ((f2.tr (FRD.uI _ (by omega) (by omega) _ _)).tr (FRD.uI _ (by omega) (by omega) _ _)).tr (FRD.uI _ (by omega) (by omega) _ _)
  have a3 : DL2 h h3 d 0 wt W (roN n p r) := by
    refine ⟨f3, ?_, ?_, ?_, ?_, fun j hj => absurd hj (by omega), fun j c hj => absurd hj (by omega), fun k hk => absurd hk (by omega), fun x hx => ?_⟩
    · rw [← hh3, rI_uI, if_pos rfl, upd_at, if_neg (by omega), rI_uI, if_pos rfl, pk_us]
    · rw [← hh3, rI_uI, if_pos rfl, pk_us]
    · rw [← hh3, rI_uI, if_neg (by omega), rI_uI, if_neg (by omega), rI_uI, if_pos rfl, pk_us]
    · rw [← hh3, rI_uI, if_neg (by omega), rI_uI, if_neg (by omega), rI_uI, if_neg (by omega)]; exact z9
    · rw [← hh3, rI_uI, if_neg (by omega), rI_uI, if_neg (by omega), rI_uI, if_neg (by omega)]; exact z10 x hx
  have hro : ∀ j, j < 9 → roN n p r j < 9 := fun j hj => by
    simp only [roN]
    split
    · rename_i e
      exact (s.pl.1 _ (by have := (s.rr.1 j e).1; omega)).1
    · exact (s.pl.1 _ hj).1
  obtain ⟨h', b, eb⟩ := deal_b D.k h4 gk gp gb gw go hro wt 0 (by omega) h3 a3
  have e0 : nI (n - 1) - nI 1 = nI (n - 1) - nI 1 := rfl
  refine ⟨h', fun Q => ?_, ?_, b.f⟩
  · have c4 : ¬ 4 < wt := by omega
    rw [k82_0]
    simp (disch := omega) only [k82_1, k82_4, k82_7, k82_8, k82_9, if_true, if_false, ite_true, ite_false, not_true_eq_false, not_false_eq_true, true_or, or_true, false_or, or_false, and_self, ok_n0, ok_ni, ok_nr, ok_nl, va_rf_some, va_rf_none, true_and, and_true, List.length_nil, List.length_cons, Option.toList_some, Option.toList_none, List.cons_append, List.nil_append, rK_uA, rK_uI, rK_uJ, rK_uP, rP_uA, rP_uI, rP_uJ, rJ_uA, rJ_uI, rJ_uP, rI_uJ, rI_uP, rz_uA, rz_uI, rz_uJ, rz_uP, rs_uA, rs_uI, rs_uJ, rs_uP, Nat.reduceAdd, Nat.reduceMul, Nat.reduceSub, Nat.reduceLeDiff, Nat.reduceLT, Nat.reduceEqDiff, Nat.add_zero, Nat.zero_add, Nat.zero_le, k0, k7, k8, D.vsz, ea Q]
    rw [k82_40]
    simp (disch := omega) only [k82_0, k82_1, k82_4, k82_7, k82_8, k82_9, k82_11, k82_14, k82_15, k82_18, k82_19, k82_20, k82_21, k82_24, k82_25, k82_28, k82_31, k82_34, k82_37, k82_41, k82_44, k82_45, k82_46, k82_49, k82_52, k82_53, k82_56, k82_57, k82_60, k82_61, k82_62, k82_63, k82_66, k82_69, k82_70, k82_71, k82_74, k82_75, k82_77, k82_78, k82_81, k82_84, k82_85, k82_88, k82_89, k82_90, k82_91, k82_92, k82_93, k82_96, k82_97, k82_100, k82_101, k82_102, k82_105, k82_106, k82_109, k82_110, k82_111, k82_114, k82_115, k82_118, k82_119, k82_122, k82_123, k82_126, k82_127, k82_128, k82_129, k82_130, k82_133, k82_136, k82_139, xc, xi, s_min, if_true, if_false, ite_true, ite_false, not_true_eq_false, not_false_eq_true, true_or, or_true, false_or, or_false, and_self, ok_n0, ok_ni, ok_nr, ok_nl, va_rf_some, va_rf_none, true_and, and_true, List.length_nil, List.length_cons, Option.toList_some, Option.toList_none, List.cons_append, List.nil_append, rK_uA, rK_uI, rK_uJ, rK_uP, rP_uA, rP_uI, rP_uJ, rJ_uA, rJ_uI, rJ_uP, rI_uJ, rI_uP, rz_uA, rz_uI, rz_uJ, rz_uP, rs_uA, rs_uI, rs_uJ, rs_uP, Nat.reduceAdd, Nat.reduceMul, Nat.reduceSub, Nat.reduceLeDiff, Nat.reduceLT, Nat.reduceEqDiff, Nat.add_zero, Nat.zero_add, Nat.zero_le, k0, k7, k8, k11, k12, a1.f.fk, a1.f.fp, f2.fk, f2.fp, ar_lt, c4, hh3, eb Q]
  · refine ⟨?_, ?_, ?_, b.vsz, b.hsz, fun j hj => ?_, fun j c hj hc => ?_, fun k hk => ?_, fun k hk => ?_⟩
    · have := D.k
      unfold SCK at *
      rw [b.f.fk, b.f.fp]; exact this
    · rw [b.many, newV, fil_o _ _ _ (by omega), upd_at, if_neg (by omega), fil_o _ _ _ (by omega), fil_o _ _ _ (by omega), fil_o _ _ _ (by omega), upd_at, if_pos rfl]
    · rw [b.cur, newV, fil_o _ _ _ (by omega), upd_at, if_neg (by omega), fil_o _ _ _ (by omega), fil_o _ _ _ (by omega), fil_o _ _ _ (by omega), upd_at, if_neg (by omega)]
      exact (fil_in v 0 (fun _ => nI 0) (k := 35) (j := 1) (by omega)).symm
    · rw [b.ws j hj, newV, fil_o _ _ _ (by omega), upd_at, if_neg (by omega), fil_in _ _ _ hj]
    · rw [b.bx j c hj hc, newV, fil_o _ _ _ (by omega), upd_at, if_neg (by omega), fil_o _ _ _ (by omega), Nat.add_assoc 5, fil_in _ _ _ (by omega)]
    · rw [b.vis k hk, newV, fil_o _ _ _ (by omega), upd_at, if_neg (by omega), fil_o _ _ _ (by omega), fil_o _ _ _ (by omega), fil_in _ _ _ hk]
    · rw [b.hid k hk, newV, fil_in _ _ _ hk]
end DEAL
