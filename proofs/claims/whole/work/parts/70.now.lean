/-! THE TWO OBJECTS, SIDE BY SIDE -/
def XK (h : pm_H) (X : Nat) : Prop := rK h X = (1, 8) ∧ rP h X 2 = some (X + 107) ∧ rK h (X + 107) = (1, 3) ∧ rP h (X + 107) 0 = some (X + 108) ∧ rK h (X + 108) = (5, 40) ∧ rP h X 3 = some (X + 109) ∧ rK h (X + 109) = (4, 4) ∧ (∀ j, j < 4 → rP h (X + 109) j = some (X + 110 + j)) ∧ (∀ j, j < 4 → rK h (X + 110 + j) = (1, 0)) ∧ rP h X 5 = some (X + 114) ∧ rK h (X + 114) = (1, 0)
def NOW (h : pm_H) (X M d s : Nat) (v : Nat → Int32) (n c : Nat) (p lo r rl C H P : Nat → Nat) : Prop := (XK h X) ∧ (rP h X 0 = some d) ∧ (DV h d v n C H) ∧ (SI v n c p lo r rl) ∧ (RI v C H P) ∧ (MV h M s v) ∧ (MK2 h M) ∧ (X + 114 < d ∨ d + 53 ≤ X + 114) ∧ (M + 16 ≤ d ∨ d + 53 ≤ M) ∧ (M = X + 115)
theorem NOW.xk {h : pm_H} {X M d s : Nat} {v : Nat → Int32} {n c : Nat} {p lo r rl C H P : Nat → Nat} (x_ : NOW h X M d s v n c p lo r rl C H P) : XK h X := x_.1
theorem NOW.dd {h : pm_H} {X M d s : Nat} {v : Nat → Int32} {n c : Nat} {p lo r rl C H P : Nat → Nat} (x_ : NOW h X M d s v n c p lo r rl C H P) : rP h X 0 = some d := x_.2.1
theorem NOW.dv {h : pm_H} {X M d s : Nat} {v : Nat → Int32} {n c : Nat} {p lo r rl C H P : Nat → Nat} (x_ : NOW h X M d s v n c p lo r rl C H P) : DV h d v n C H := x_.2.2.1
theorem NOW.si {h : pm_H} {X M d s : Nat} {v : Nat → Int32} {n c : Nat} {p lo r rl C H P : Nat → Nat} (x_ : NOW h X M d s v n c p lo r rl C H P) : SI v n c p lo r rl := x_.2.2.2.1
theorem NOW.ri {h : pm_H} {X M d s : Nat} {v : Nat → Int32} {n c : Nat} {p lo r rl C H P : Nat → Nat} (x_ : NOW h X M d s v n c p lo r rl C H P) : RI v C H P := x_.2.2.2.2.1
theorem NOW.mv {h : pm_H} {X M d s : Nat} {v : Nat → Int32} {n c : Nat} {p lo r rl C H P : Nat → Nat} (x_ : NOW h X M d s v n c p lo r rl C H P) : MV h M s v := x_.2.2.2.2.2.1
theorem NOW.m2 {h : pm_H} {X M d s : Nat} {v : Nat → Int32} {n c : Nat} {p lo r rl C H P : Nat → Nat} (x_ : NOW h X M d s v n c p lo r rl C H P) : MK2 h M := x_.2.2.2.2.2.2.1
theorem NOW.ob {h : pm_H} {X M d s : Nat} {v : Nat → Int32} {n c : Nat} {p lo r rl C H P : Nat → Nat} (x_ : NOW h X M d s v n c p lo r rl C H P) : X + 114 < d ∨ d + 53 ≤ X + 114 := x_.2.2.2.2.2.2.2.1
theorem NOW.om {h : pm_H} {X M d s : Nat} {v : Nat → Int32} {n c : Nat} {p lo r rl C H P : Nat → Nat} (x_ : NOW h X M d s v n c p lo r rl C H P) : M + 16 ≤ d ∨ d + 53 ≤ M := x_.2.2.2.2.2.2.2.2.1
theorem NOW.xm {h : pm_H} {X M d s : Nat} {v : Nat → Int32} {n c : Nat} {p lo r rl C H P : Nat → Nat} (x_ : NOW h X M d s v n c p lo r rl C H P) : M = X + 115 := x_.2.2.2.2.2.2.2.2.2
/-- only the box and the model's scratch differ -/
def FRM (X M : Nat) (h h' : pm_H) : Prop := (rK h' = rK h) ∧ (rP h' = rP h) ∧ (rz h' = rz h) ∧ (rs h' = rs h) ∧ (∀ b, b ≠ M → rJ h' b = rJ h b) ∧ (∀ b, b ≠ X + 114 → b ≠ M → (b < M + 4 ∨ M + 15 < b) → rI h' b = rI h b) ∧ (∀ k, k ≠ 12 → k ≠ 13 → k ≠ 20 → rI h' M k = rI h M k)
theorem FRM.fk {X M : Nat} {h h' : pm_H} (x_ : FRM X M h h') : rK h' = rK h := x_.1
theorem FRM.fp {X M : Nat} {h h' : pm_H} (x_ : FRM X M h h') : rP h' = rP h := x_.2.1
theorem FRM.fz {X M : Nat} {h h' : pm_H} (x_ : FRM X M h h') : rz h' = rz h := x_.2.2.1
theorem FRM.fs {X M : Nat} {h h' : pm_H} (x_ : FRM X M h h') : rs h' = rs h := x_.2.2.2.1
theorem FRM.fj {X M : Nat} {h h' : pm_H} (x_ : FRM X M h h') : ∀ b, b ≠ M → rJ h' b = rJ h b := x_.2.2.2.2.1
theorem FRM.fi {X M : Nat} {h h' : pm_H} (x_ : FRM X M h h') : ∀ b, b ≠ X + 114 → b ≠ M → (b < M + 4 ∨ M + 15 < b) → rI h' b = rI h b := x_.2.2.2.2.2.1
theorem FRM.fm {X M : Nat} {h h' : pm_H} (x_ : FRM X M h h') : ∀ k, k ≠ 12 → k ≠ 13 → k ≠ 20 → rI h' M k = rI h M k := x_.2.2.2.2.2.2
theorem FRM.rf (X M : Nat) (h : pm_H) : FRM X M h h := ⟨rfl, rfl, rfl, rfl, fun _ _ => rfl, fun _ _ _ _ => rfl, fun _ _ _ _ => rfl⟩
theorem FRM.tr {X M : Nat} {a b c : pm_H} (x : FRM X M a b) (y : FRM X M b c) : FRM X M a c := ⟨y.fk.trans x.fk, y.fp.trans x.fp, y.fz.trans x.fz, y.fs.trans x.fs, fun q h => (y.fj q h).trans (x.fj q h), fun q h1 h2 h3 => (y.fi q h1 h2 h3).trans (x.fi q h1 h2 h3), fun k h1 h2 h3 => (y.fm k h1 h2 h3).trans (x.fm k h1 h2 h3)⟩
theorem FRM.scr {X M : Nat} {h h' : pm_H} (s : SCR M h h') : FRM X M h h' := by
  obtain ⟨a1, a2, a3, a4, a5, a6, a7⟩ := s
  refine ⟨a1, a2, a3, a4, fun b _ => by rw [a5], fun b h1 h2 h3 => a6 b (by omega), a7⟩
theorem FRM.box {X M : Nat} (h : pm_H) (hx : M = X + 115) (g : Nat → Int32) : FRM X M h (uA h (X + 114) g) := by
  refine ⟨rfl, rfl, rfl, rfl, fun b _ => rfl, fun b h1 h2 h3 => ?_, fun k _ _ _ => ?_⟩
  · rw [rI_uA, if_neg h1]
  · rw [rI_uA, if_neg (by omega)]
theorem FRM.tld {X M : Nat} (h : pm_H) (k : Nat) (x : Int64) : FRM X M h (uJ h M k x) := by
  refine ⟨rfl, rfl, rfl, rfl, fun b hb => ?_, fun b h1 h2 h3 => rfl, fun k _ _ _ => rfl⟩
  rw [rJ_uJ, if_neg hb]
theorem DK.cg {h h' : pm_H} {d : Nat} (t : DK h d) (e1 : rK h' = rK h) (e2 : rP h' = rP h) : DK h' d := by
  unfold DK SCK FLT at *
  rw [e1, e2]; exact t
theorem DV.cg {h h' : pm_H} {d n : Nat} {v : Nat → Int32} {C H : Nat → Nat} (t : DV h d v n C H) (e1 : rK h' = rK h) (e2 : rP h' = rP h) (ei : ∀ b, d ≤ b → b < d + 53 → rI h' b = rI h b) (ej : rJ h' (d + 50) = rJ h (d + 50)) (hn : n ≤ 4) : DV h' d v n C H := by
  refine ⟨t.k.cg e1 e2, ?_, ?_, ?_, ?_, fun j hj => ?_, fun j c hj hc => ?_, fun k hk => ?_, fun k hk => ?_, fun i c hi hc => ?_, fun i hi => ?_, fun i hi => ?_, fun i k hi hk => ?_, fun w hw => ?_, fun w c hw hc => ?_, fun w => ?_⟩
  · rw [ei _ (by omega) (by omega)]; exact t.many
  · rw [ei _ (by omega) (by omega)]; exact t.cur
  · rw [ei _ (by omega) (by omega)]; exact t.vsz
  · rw [ei _ (by omega) (by omega)]; exact t.hsz
  · rw [ei _ (by omega) (by omega)]; exact t.ws j hj
  · rw [ei _ (by omega) (by omega)]; exact t.bx j c hj hc
  · rw [ei _ (by omega) (by omega)]; exact t.vis k hk
  · rw [ei _ (by omega) (by omega)]; exact t.hid k hk
  · rw [ei _ (by omega) (by omega)]; exact t.lay i c hi hc
  · rw [ei _ (by omega) (by omega)]; exact t.cnt i hi
  · rw [ei _ (by omega) (by omega)]; exact t.foc i hi
  · rw [ei _ (by omega) (by omega)]; exact t.ord i k hi hk
  · rw [ei _ (by omega) (by omega)]; exact t.hom w hw
  · rw [ei _ (by omega) (by omega)]; exact t.shr w c hw hc
  · rw [ej]; exact t.bit w
theorem MV.cg {h h' : pm_H} {M s : Nat} {v : Nat → Int32} (t : MV h M s v) (e1 : rK h' = rK h) (e2 : rP h' = rP h) (e3 : rI h' M 3 = rI h M 3) (e4 : rI h' (M + 1) = rI h (M + 1)) : MV h' M s v := by
  obtain ⟨t1, t2, t3, t4⟩ := t
  exact ⟨t1.scr e1 e2, by rw [e3]; exact t2, t3, fun e => by rw [e4]; exact t4 e⟩
theorem XK.cg {h h' : pm_H} {X : Nat} (t : XK h X) (e1 : rK h' = rK h) (e2 : rP h' = rP h) : XK h' X := by
  unfold XK at *
  rw [e1, e2]; exact t
theorem NOW.frm {h h' : pm_H} {X M d s : Nat} {v : Nat → Int32} {n c : Nat} {p lo r rl C H P : Nat → Nat} (N : NOW h X M d s v n c p lo r rl C H P) (f : FRM X M h h') : NOW h' X M d s v n c p lo r rl C H P := by
  have o1 := N.ob
  have o2 := N.om
  have o3 := N.xm
  refine ⟨N.xk.cg f.fk f.fp, by rw [f.fp]; exact N.dd, N.dv.cg f.fk f.fp (fun b h1 h2 => f.fi b (by omega) (by omega) (by omega)) (f.fj _ (by omega)) N.si.n4, N.si, N.ri, N.mv.cg f.fk f.fp (f.fm 3 (by decide) (by decide) (by decide)) (f.fi _ (by omega) (by omega) (by omega)), N.m2.scr f.fk f.fp, o1, o2, o3⟩
theorem lget_cg {f g : Nat → Int32} {s : Nat} (hs : s < 2147483648) (h : ∀ k, k < s → f k = g k) (x : Int32) : lget f s x = lget g s x := by
  rcases ar_ix x (n := s) hs with ⟨h1, h2⟩ | ⟨h1, h2, h3⟩ | ⟨j, hj, rfl⟩
  · rw [lget, lget, if_neg h2, if_neg h2]
  · rw [lget, lget, if_neg h3, if_neg h3]
  · rw [lget_nI hj hs, lget_nI hj hs, h j hj]
theorem lget_out {f : Nat → Int32} {s : Nat} {x : Int32} (h : ¬ (0 ≤ x.toInt ∧ x.toInt < s)) : lget f s x = -1 := by
  rw [lget, if_neg h]
/-- isIn, read off -/
theorem isin_cases (x : Int32) {n : Nat} (hn : n < 2147483648) : ((nI 0 ≤ x ∧ x < nI n) = False ∧ ¬ (0 ≤ x.toInt ∧ x.toInt < n)) ∨ ∃ j, j < n ∧ x = nI j ∧ (nI 0 ≤ nI j ∧ nI j < nI n) = True := by
  rcases ar_ix x (n := n) hn with ⟨h1, h2⟩ | ⟨h1, h2, h3⟩ | ⟨j, hj, rfl⟩
  · exact Or.inl ⟨eq_false (fun z => absurd h1 (by rw [Int32.not_lt]; exact z.1)), h2⟩
  · exact Or.inl ⟨eq_false (fun z => absurd h2 (by rw [Int32.not_le]; exact z.2)), h3⟩
  · exact Or.inr ⟨j, hj, rfl, eq_true (by rw [ar_le (by omega) (by omega), ar_lt (by omega) (by omega)]; omega)⟩
def wkV (v : Nat → Int32) (n c : Nat) (r : Nat → Nat) (a b : Int32) : Int32 := if a = nI 0 then v (21 + c) else if a = nI 1 then lget (fun j => v (21 + j)) n b else if a = nI 2 then lget (fun k => v (21 + r (k + 1))) (n - 1) b else if a = nI 3 then lget (fun k => v (26 + k)) (9 - n) b else -1
section RD
variable {h : pm_H} {X M d s : Nat} {v : Nat → Int32} {n c : Nat} {p lo r rl C H P : Nat → Nat}
theorem x_workspace (N : NOW h X M d s v n c p lo r rl C H P) (a b : Int32) (Q : Option Value × pm_H → Prop) : pGo 103 0 [some (.ref X), some (.int a), some (.int b)] [] h Q = Q (some (.int (wkV v n c r a b)), h) := by
  have sc := (N.dv.ds N.si N.ri).2.2
  have dk := N.dv.k
  obtain ⟨k0, k1, k2, k3, k4, k5, k6, k7, k8, k9, k10, k11, k12, k13⟩ := id dk
  have n4 := N.si.n4
  have n1 := N.si.n1
  have cn := N.si.cn
  have e0 := N.dv.ws c cn
  have e1 := lget_cg (f := rI h (d + 39 + 6)) (g := fun j => v (21 + j)) (s := n) (by omega) (fun k hk => N.dv.ws k hk)
  have e3 := lget_cg (f := rI h (d + 39 + 10)) (g := fun k => v (26 + k)) (s := 9 - n) (by omega) (fun k hk => N.dv.hid k hk)
  have e2 : lget (rI h (d + 39 + 6)) n (lget (rI h (d + 39 + 8)) (n - 1) b) = lget (fun k => v (21 + r (k + 1))) (n - 1) b := by
    rcases isin_cases b (n := n - 1) (by omega) with ⟨-, z⟩ | ⟨j, hj, rfl, -⟩
    · rw [lget_out z, lget_out z, lget_m1]
    · have rk := N.si.rr.1 (j + 1) (by omega)
      rw [lget_nI hj (by omega), lget_nI hj (by omega), N.dv.vis j hj, N.si.vs j hj, lget_nI rk.1 (by omega), N.dv.ws _ rk.1]
  rw [e1] at e2
  obtain ⟨-, -, -, -, -, -, -, g7, g8, g9, g10, g11, g12, g13, g14⟩ := k9
  have g0 := dk.2.2.2.2.2.2.2.2.2.1.1
  simp only [k103_0, k103_1, k103_32, k103_33, k103_36, k103_39, k103_42, k103_43, k103_44, k103_47, k103_50, k103_51, k103_54, k103_55, k103_56, k103_59, k103_62, k103_63, k103_66, k103_69, k103_72, k103_73, k103_76, k103_79, k103_80, k103_81, k103_84, k103_87, k103_90, k103_91, k103_94, k103_95, k103_96, s_Screens_currentWorkspace sc, s_Screens_workspaceOf sc, s_Line_get sc.vis, s_Line_get sc.hid, e0, e1, e2, e3, if_true, if_false, ite_true, ite_false, not_true_eq_false, not_false_eq_true, true_or, or_true, false_or, or_false, and_self, ok_n0, ok_ni, ok_nr, ok_nl, va_rf_some, va_rf_none, true_and, and_true, List.length_nil, List.length_cons, Option.toList_some, Option.toList_none, List.cons_append, List.nil_append, rK_uA, rK_uI, rK_uJ, rK_uP, rP_uA, rP_uI, rP_uJ, rJ_uA, rJ_uI, rJ_uP, rI_uJ, rI_uP, rz_uA, rz_uI, rz_uJ, rz_uP, rs_uA, rs_uI, rs_uJ, rs_uP, Nat.reduceAdd, Nat.reduceMul, Nat.reduceSub, Nat.reduceLeDiff, Nat.reduceLT, Nat.reduceEqDiff, Nat.add_zero, Nat.zero_add, Nat.zero_le, N.xk.1, N.dd, k0, k8, g0, g7, g8, g11, g12, wkV]
  by_cases h0 : a = nI 0
  · subst h0
    simp (disch := omega) only [gsw, ar_eq, if_true, if_false, ite_true, ite_false, not_true_eq_false, not_false_eq_true, true_or, or_true, false_or, or_false, and_self, ok_n0, ok_ni, ok_nr, ok_nl, va_rf_some, va_rf_none, true_and, and_true, List.length_nil, List.length_cons, Option.toList_some, Option.toList_none, List.cons_append, List.nil_append, rK_uA, rK_uI, rK_uJ, rK_uP, rP_uA, rP_uI, rP_uJ, rJ_uA, rJ_uI, rJ_uP, rI_uJ, rI_uP, rz_uA, rz_uI, rz_uJ, rz_uP, rs_uA, rs_uI, rs_uJ, rs_uP, Nat.reduceAdd, Nat.reduceMul, Nat.reduceSub, Nat.reduceLeDiff, Nat.reduceLT, Nat.reduceEqDiff, Nat.add_zero, Nat.zero_add, Nat.zero_le, k103_0, k103_1, k103_32, k103_33, k103_36, k103_39, k103_42, k103_43, k103_44, k103_47, k103_50, k103_51, k103_54, k103_55, k103_56, k103_59, k103_62, k103_63, k103_66, k103_69, k103_72, k103_73, k103_76, k103_79, k103_80, k103_81, k103_84, k103_87, k103_90, k103_91, k103_94, k103_95, k103_96, s_Screens_currentWorkspace sc, s_Screens_workspaceOf sc, s_Line_get sc.vis, s_Line_get sc.hid, e0, e1, e2, e3, N.xk.1, N.dd, k0, k8, g0, g7, g8, g11, g12]
  · skip
    by_cases h1 : a = nI 1
    · subst h1
      simp (disch := omega) only [gsw, ar_eq, if_true, if_false, ite_true, ite_false, not_true_eq_false, not_false_eq_true, true_or, or_true, false_or, or_false, and_self, ok_n0, ok_ni, ok_nr, ok_nl, va_rf_some, va_rf_none, true_and, and_true, List.length_nil, List.length_cons, Option.toList_some, Option.toList_none, List.cons_append, List.nil_append, rK_uA, rK_uI, rK_uJ, rK_uP, rP_uA, rP_uI, rP_uJ, rJ_uA, rJ_uI, rJ_uP, rI_uJ, rI_uP, rz_uA, rz_uI, rz_uJ, rz_uP, rs_uA, rs_uI, rs_uJ, rs_uP, Nat.reduceAdd, Nat.reduceMul, Nat.reduceSub, Nat.reduceLeDiff, Nat.reduceLT, Nat.reduceEqDiff, Nat.add_zero, Nat.zero_add, Nat.zero_le, k103_0, k103_1, k103_32, k103_33, k103_36, k103_39, k103_42, k103_43, k103_44, k103_47, k103_50, k103_51, k103_54, k103_55, k103_56, k103_59, k103_62, k103_63, k103_66, k103_69, k103_72, k103_73, k103_76, k103_79, k103_80, k103_81, k103_84, k103_87, k103_90, k103_91, k103_94, k103_95, k103_96, s_Screens_currentWorkspace sc, s_Screens_workspaceOf sc, s_Line_get sc.vis, s_Line_get sc.hid, e0, e1, e2, e3, N.xk.1, N.dd, k0, k8, g0, g7, g8, g11, g12]
    · skip
      by_cases h2 : a = nI 2
      · subst h2
        simp (disch := omega) only [gsw, ar_eq, if_true, if_false, ite_true, ite_false, not_true_eq_false, not_false_eq_true, true_or, or_true, false_or, or_false, and_self, ok_n0, ok_ni, ok_nr, ok_nl, va_rf_some, va_rf_none, true_and, and_true, List.length_nil, List.length_cons, Option.toList_some, Option.toList_none, List.cons_append, List.nil_append, rK_uA, rK_uI, rK_uJ, rK_uP, rP_uA, rP_uI, rP_uJ, rJ_uA, rJ_uI, rJ_uP, rI_uJ, rI_uP, rz_uA, rz_uI, rz_uJ, rz_uP, rs_uA, rs_uI, rs_uJ, rs_uP, Nat.reduceAdd, Nat.reduceMul, Nat.reduceSub, Nat.reduceLeDiff, Nat.reduceLT, Nat.reduceEqDiff, Nat.add_zero, Nat.zero_add, Nat.zero_le, k103_0, k103_1, k103_32, k103_33, k103_36, k103_39, k103_42, k103_43, k103_44, k103_47, k103_50, k103_51, k103_54, k103_55, k103_56, k103_59, k103_62, k103_63, k103_66, k103_69, k103_72, k103_73, k103_76, k103_79, k103_80, k103_81, k103_84, k103_87, k103_90, k103_91, k103_94, k103_95, k103_96, s_Screens_currentWorkspace sc, s_Screens_workspaceOf sc, s_Line_get sc.vis, s_Line_get sc.hid, e0, e1, e2, e3, N.xk.1, N.dd, k0, k8, g0, g7, g8, g11, g12]
      · skip
        by_cases h3 : a = nI 3
        · subst h3
          simp (disch := omega) only [gsw, ar_eq, if_true, if_false, ite_true, ite_false, not_true_eq_false, not_false_eq_true, true_or, or_true, false_or, or_false, and_self, ok_n0, ok_ni, ok_nr, ok_nl, va_rf_some, va_rf_none, true_and, and_true, List.length_nil, List.length_cons, Option.toList_some, Option.toList_none, List.cons_append, List.nil_append, rK_uA, rK_uI, rK_uJ, rK_uP, rP_uA, rP_uI, rP_uJ, rJ_uA, rJ_uI, rJ_uP, rI_uJ, rI_uP, rz_uA, rz_uI, rz_uJ, rz_uP, rs_uA, rs_uI, rs_uJ, rs_uP, Nat.reduceAdd, Nat.reduceMul, Nat.reduceSub, Nat.reduceLeDiff, Nat.reduceLT, Nat.reduceEqDiff, Nat.add_zero, Nat.zero_add, Nat.zero_le, k103_0, k103_1, k103_32, k103_33, k103_36, k103_39, k103_42, k103_43, k103_44, k103_47, k103_50, k103_51, k103_54, k103_55, k103_56, k103_59, k103_62, k103_63, k103_66, k103_69, k103_72, k103_73, k103_76, k103_79, k103_80, k103_81, k103_84, k103_87, k103_90, k103_91, k103_94, k103_95, k103_96, s_Screens_currentWorkspace sc, s_Screens_workspaceOf sc, s_Line_get sc.vis, s_Line_get sc.hid, e0, e1, e2, e3, N.xk.1, N.dd, k0, k8, g0, g7, g8, g11, g12]
        · skip
          simp (disch := omega) only [gsw, if_true, if_false, ite_true, ite_false, not_true_eq_false, not_false_eq_true, true_or, or_true, false_or, or_false, and_self, ok_n0, ok_ni, ok_nr, ok_nl, va_rf_some, va_rf_none, true_and, and_true, List.length_nil, List.length_cons, Option.toList_some, Option.toList_none, List.cons_append, List.nil_append, rK_uA, rK_uI, rK_uJ, rK_uP, rP_uA, rP_uI, rP_uJ, rJ_uA, rJ_uI, rJ_uP, rI_uJ, rI_uP, rz_uA, rz_uI, rz_uJ, rz_uP, rs_uA, rs_uI, rs_uJ, rs_uP, Nat.reduceAdd, Nat.reduceMul, Nat.reduceSub, Nat.reduceLeDiff, Nat.reduceLT, Nat.reduceEqDiff, Nat.add_zero, Nat.zero_add, Nat.zero_le, h0, h1, h2, h3, k103_0, k103_1, k103_32, k103_33, k103_36, k103_39, k103_42, k103_43, k103_44, k103_47, k103_50, k103_51, k103_54, k103_55, k103_56, k103_59, k103_62, k103_63, k103_66, k103_69, k103_72, k103_73, k103_76, k103_79, k103_80, k103_81, k103_84, k103_87, k103_90, k103_91, k103_94, k103_95, k103_96, s_Screens_currentWorkspace sc, s_Screens_workspaceOf sc, s_Line_get sc.vis, s_Line_get sc.hid, e0, e1, e2, e3, N.xk.1, N.dd, k0, k8, g0, g7, g8, g11, g12]
theorem m_workspace (N : NOW h X M d s v n c p lo r rl C H P) (a b : Int32) (Q : Option Value × pm_H → Prop) : pGo 173 0 [some (.ref M), some (.int a), some (.int b)] [] h Q = Q (some (.int (wkV v n c r a b)), h) := by
  obtain ⟨t1, u2, u3, u4⟩ := id N.mv
  have n4 := N.si.n4
  have n1 := N.si.n1
  have cn := N.si.cn
  have c0 : s < 41160 := by omega
  have c25 : s + 25 < 41160 := by omega
  have z0 : rI h (M + 1) s = nI n := (u4 0).trans N.si.v0
  have z25 : rI h (M + 1) (s + 25) = nI (9 - n) := (u4 25).trans N.si.v25
  simp (disch := omega) only [k173_0, k173_1, k173_32, k173_33, k173_36, k173_37, k173_38, k173_39, k173_42, k173_43, k173_46, k173_47, k173_48, k173_49, k173_52, k173_55, k173_56, k173_59, k173_60, k173_63, k173_65, k173_66, k173_67, k173_68, k173_69, k173_72, k173_73, k173_74, k173_75, k173_76, k173_79, k173_80, k173_83, k173_84, k173_85, k173_86, k173_87, k173_88, k173_91, k173_94, k173_95, k173_98, k173_99, k173_102, k173_104, k173_105, k173_106, k173_109, k173_110, k173_113, k173_114, k173_115, k173_116, k173_117, k173_118, k173_119, k173_120, k173_123, k173_124, k173_125, k173_126, k173_127, k173_130, k173_131, k173_134, k173_136, k173_137, k173_138, k173_141, k173_144, k173_145, k173_148, k173_149, k173_152, k173_154, k173_155, k173_156, k173_157, k173_158, k173_161, k173_162, k173_163, k173_164, s_currentSpace N.mv N.si.v1, s_isIn, if_true, if_false, ite_true, ite_false, not_true_eq_false, not_false_eq_true, true_or, or_true, false_or, or_false, and_self, ok_n0, ok_ni, ok_nr, ok_nl, va_rf_some, va_rf_none, true_and, and_true, List.length_nil, List.length_cons, Option.toList_some, Option.toList_none, List.cons_append, List.nil_append, rK_uA, rK_uI, rK_uJ, rK_uP, rP_uA, rP_uI, rP_uJ, rJ_uA, rJ_uI, rJ_uP, rI_uJ, rI_uP, rz_uA, rz_uI, rz_uJ, rz_uP, rs_uA, rs_uI, rs_uJ, rs_uP, Nat.reduceAdd, Nat.reduceMul, Nat.reduceSub, Nat.reduceLeDiff, Nat.reduceLT, Nat.reduceEqDiff, Nat.add_zero, Nat.zero_add, Nat.zero_le, t1.1, t1.2.1, t1.2.2.1, u2, ar_add, ar_oki, ar_cl, Nat.add_assoc s, z0, z25, c0, c25, gsw, wkV, ar_sub]
  by_cases h0 : a = nI 0
  · simp only [h0, if_true, if_false, ite_true, ite_false, not_true_eq_false, not_false_eq_true, true_or, or_true, false_or, or_false, and_self, ok_n0, ok_ni, ok_nr, ok_nl, va_rf_some, va_rf_none, true_and, and_true, List.length_nil, List.length_cons, Option.toList_some, Option.toList_none, List.cons_append, List.nil_append, rK_uA, rK_uI, rK_uJ, rK_uP, rP_uA, rP_uI, rP_uJ, rJ_uA, rJ_uI, rJ_uP, rI_uJ, rI_uP, rz_uA, rz_uI, rz_uJ, rz_uP, rs_uA, rs_uI, rs_uJ, rs_uP, Nat.reduceAdd, Nat.reduceMul, Nat.reduceSub, Nat.reduceLeDiff, Nat.reduceLT, Nat.reduceEqDiff, Nat.add_zero, Nat.zero_add, Nat.zero_le]
  · by_cases h1 : a = nI 1
    · subst h1
      rcases isin_cases b (n := n) (by omega) with ⟨z1, z⟩ | ⟨j, hj, rfl, z⟩
      · simp (disch := omega) only [z1, lget_out z, ar_eq, if_true, if_false, ite_true, ite_false, not_true_eq_false, not_false_eq_true, true_or, or_true, false_or, or_false, and_self, ok_n0, ok_ni, ok_nr, ok_nl, va_rf_some, va_rf_none, true_and, and_true, List.length_nil, List.length_cons, Option.toList_some, Option.toList_none, List.cons_append, List.nil_append, rK_uA, rK_uI, rK_uJ, rK_uP, rP_uA, rP_uI, rP_uJ, rJ_uA, rJ_uI, rJ_uP, rI_uJ, rI_uP, rz_uA, rz_uI, rz_uJ, rz_uP, rs_uA, rs_uI, rs_uJ, rs_uP, Nat.reduceAdd, Nat.reduceMul, Nat.reduceSub, Nat.reduceLeDiff, Nat.reduceLT, Nat.reduceEqDiff, Nat.add_zero, Nat.zero_add, Nat.zero_le, decide_false, nb_f]
      · have cj : s + (21 + j) < 41160 := by omega
        simp (disch := omega) only [z, lget_nI hj, ar_eq, ar_add, ar_oki, ar_cl, Nat.add_assoc s, u4, cj, t1.2.2.1, if_true, if_false, ite_true, ite_false, not_true_eq_false, not_false_eq_true, true_or, or_true, false_or, or_false, and_self, ok_n0, ok_ni, ok_nr, ok_nl, va_rf_some, va_rf_none, true_and, and_true, List.length_nil, List.length_cons, Option.toList_some, Option.toList_none, List.cons_append, List.nil_append, rK_uA, rK_uI, rK_uJ, rK_uP, rP_uA, rP_uI, rP_uJ, rJ_uA, rJ_uI, rJ_uP, rI_uJ, rI_uP, rz_uA, rz_uI, rz_uJ, rz_uP, rs_uA, rs_uI, rs_uJ, rs_uP, Nat.reduceAdd, Nat.reduceMul, Nat.reduceSub, Nat.reduceLeDiff, Nat.reduceLT, Nat.reduceEqDiff, Nat.add_zero, Nat.zero_add, Nat.zero_le, decide_true, nb_t, n1_0]
    · by_cases h2 : a = nI 2
      · subst h2
        rcases isin_cases b (n := n - 1) (by omega) with ⟨z1, z⟩ | ⟨j, hj, rfl, z⟩
        · simp (disch := omega) only [z1, lget_out z, ar_eq, if_true, if_false, ite_true, ite_false, not_true_eq_false, not_false_eq_true, true_or, or_true, false_or, or_false, and_self, ok_n0, ok_ni, ok_nr, ok_nl, va_rf_some, va_rf_none, true_and, and_true, List.length_nil, List.length_cons, Option.toList_some, Option.toList_none, List.cons_append, List.nil_append, rK_uA, rK_uI, rK_uJ, rK_uP, rP_uA, rP_uI, rP_uJ, rJ_uA, rJ_uI, rJ_uP, rI_uJ, rI_uP, rz_uA, rz_uI, rz_uJ, rz_uP, rs_uA, rs_uI, rs_uJ, rs_uP, Nat.reduceAdd, Nat.reduceMul, Nat.reduceSub, Nat.reduceLeDiff, Nat.reduceLT, Nat.reduceEqDiff, Nat.add_zero, Nat.zero_add, Nat.zero_le, decide_false, nb_f]
        · have rk := N.si.rr.1 (j + 1) (by omega)
          have cj : s + (2 + j) < 41160 := by omega
          have cj2 : s + (21 + r (j + 1)) < 41160 := by omega
          simp (disch := omega) only [z, lget_nI hj, ar_eq, ar_add, ar_oki, ar_cl, Nat.add_assoc s, u4, N.si.vs j hj, cj, cj2, t1.2.2.1, if_true, if_false, ite_true, ite_false, not_true_eq_false, not_false_eq_true, true_or, or_true, false_or, or_false, and_self, ok_n0, ok_ni, ok_nr, ok_nl, va_rf_some, va_rf_none, true_and, and_true, List.length_nil, List.length_cons, Option.toList_some, Option.toList_none, List.cons_append, List.nil_append, rK_uA, rK_uI, rK_uJ, rK_uP, rP_uA, rP_uI, rP_uJ, rJ_uA, rJ_uI, rJ_uP, rI_uJ, rI_uP, rz_uA, rz_uI, rz_uJ, rz_uP, rs_uA, rs_uI, rs_uJ, rs_uP, Nat.reduceAdd, Nat.reduceMul, Nat.reduceSub, Nat.reduceLeDiff, Nat.reduceLT, Nat.reduceEqDiff, Nat.add_zero, Nat.zero_add, Nat.zero_le, decide_true, nb_t, n1_0]
      · by_cases h3 : a = nI 3
        · subst h3
          rcases isin_cases b (n := 9 - n) (by omega) with ⟨z1, z⟩ | ⟨j, hj, rfl, z⟩
          · simp (disch := omega) only [z1, lget_out z, ar_eq, if_true, if_false, ite_true, ite_false, not_true_eq_false, not_false_eq_true, true_or, or_true, false_or, or_false, and_self, ok_n0, ok_ni, ok_nr, ok_nl, va_rf_some, va_rf_none, true_and, and_true, List.length_nil, List.length_cons, Option.toList_some, Option.toList_none, List.cons_append, List.nil_append, rK_uA, rK_uI, rK_uJ, rK_uP, rP_uA, rP_uI, rP_uJ, rJ_uA, rJ_uI, rJ_uP, rI_uJ, rI_uP, rz_uA, rz_uI, rz_uJ, rz_uP, rs_uA, rs_uI, rs_uJ, rs_uP, Nat.reduceAdd, Nat.reduceMul, Nat.reduceSub, Nat.reduceLeDiff, Nat.reduceLT, Nat.reduceEqDiff, Nat.add_zero, Nat.zero_add, Nat.zero_le, decide_false, nb_f]
          · have cj : s + (26 + j) < 41160 := by omega
            simp (disch := omega) only [z, lget_nI hj, ar_eq, ar_add, ar_oki, ar_cl, Nat.add_assoc s, u4, cj, t1.2.2.1, if_true, if_false, ite_true, ite_false, not_true_eq_false, not_false_eq_true, true_or, or_true, false_or, or_false, and_self, ok_n0, ok_ni, ok_nr, ok_nl, va_rf_some, va_rf_none, true_and, and_true, List.length_nil, List.length_cons, Option.toList_some, Option.toList_none, List.cons_append, List.nil_append, rK_uA, rK_uI, rK_uJ, rK_uP, rP_uA, rP_uI, rP_uJ, rJ_uA, rJ_uI, rJ_uP, rI_uJ, rI_uP, rz_uA, rz_uI, rz_uJ, rz_uP, rs_uA, rs_uI, rs_uJ, rs_uP, Nat.reduceAdd, Nat.reduceMul, Nat.reduceSub, Nat.reduceLeDiff, Nat.reduceLT, Nat.reduceEqDiff, Nat.add_zero, Nat.zero_add, Nat.zero_le, decide_true, nb_t, n1_0]
        · simp only [h0, h1, h2, h3, if_true, if_false, ite_true, ite_false, not_true_eq_false, not_false_eq_true, true_or, or_true, false_or, or_false, and_self, ok_n0, ok_ni, ok_nr, ok_nl, va_rf_some, va_rf_none, true_and, and_true, List.length_nil, List.length_cons, Option.toList_some, Option.toList_none, List.cons_append, List.nil_append, rK_uA, rK_uI, rK_uJ, rK_uP, rP_uA, rP_uI, rP_uJ, rJ_uA, rJ_uI, rJ_uP, rI_uJ, rI_uP, rz_uA, rz_uI, rz_uJ, rz_uP, rs_uA, rs_uI, rs_uJ, rs_uP, Nat.reduceAdd, Nat.reduceMul, Nat.reduceSub, Nat.reduceLeDiff, Nat.reduceLT, Nat.reduceEqDiff, Nat.add_zero, Nat.zero_add, Nat.zero_le]
end RD
