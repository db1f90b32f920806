/-! EVENTS -/
theorem pGo_ex {y pc : Nat} {L : pm_L} {st : List Value} {h : pm_H} {A : Option Value × pm_H → Prop} (g : pGo y pc L st h A) : ∃ r, A r ∧ ∀ Q, pGo y pc L st h Q = Q r := by
  obtain ⟨n, r, e, a⟩ := g
  refine ⟨r, a, fun Q => propext ⟨fun z => ?_, fun z => ⟨n, r, e, z⟩⟩⟩
  obtain ⟨m, r', e', q⟩ := z
  have a1 := pm_mono e (Nat.le_max_left n m)
  have a2 := pm_mono e' (Nat.le_max_right n m)
  rw [a1] at a2
  cases a2
  exact q
def RELS (h : pm_H) (X : Nat) : Prop := ∃ hd un V wt W d B F Sl, XR h X hd un V wt W d B F Sl ∧ MR h (X + 115) hd un V wt W
def STP (X : Nat) (h h' : pm_H) : Prop := (∀ q, q < X → SQ h h' q) ∧ rz h' ≤ rz h + 53 ∧ rs h' ≤ rs h + 1000
def EV (X : Nat) (h : pm_H) (m1 : Nat) (L1 : pm_L) (m2 : Nat) (L2 : pm_L) : Prop := ∃ (x : Int32) (h1 h2 : pm_H), (∀ Q, pGo m1 0 L1 [] h Q = Q (some (.int x), h1)) ∧ (∀ Q, pGo m2 0 L2 [] h1 Q = Q (some (.int x), h2)) ∧ RELS h2 X ∧ STP X h h2 ∧ (∀ q, q < X → SQ h h1 q) ∧ rK h1 (X + 115) = rK h (X + 115)
section EVS
variable {h : pm_H} {X hd un wt d B F : Nat} {V : Nat → Nat → Int32} {W : Nat → Int32} {Sl : Nat → Option Nat}
variable {v v' : Nat → Int32} {n c n' c' : Nat} {p lo r rl C H P p' lo' r' rl' C' H' P' : Nat → Nat}
theorem FRM.stp {h h' : pm_H} (f : FRM X (X + 115) h h') : STP X h h' := ⟨fun q hq => ⟨by rw [f.fk], f.fi q (by omega) (by omega) (by omega), f.fj q (by omega), by rw [f.fp]⟩, by rw [f.fz]; omega, by rw [f.fs]; omega⟩
theorem STP.tr1 {a b c : pm_H} (f : FRM X (X + 115) a b) (g : STP X b c) : STP X a c := ⟨fun q hq => (f.stp.1 q hq).tr (g.1 q hq), by have := g.2.1; rw [f.fz] at this; exact this, by have := g.2.2; rw [f.fs] at this; exact this⟩
theorem ev_frm {m1 m2 : Nat} {L1 L2 : pm_L} {h1 h2 : pm_H} (x : Int32) (R : XR h X hd un V wt W d B F Sl) (N : MR h (X + 115) hd un V wt W) (f1 : FRM X (X + 115) h h1) (f2 : FRM X (X + 115) h1 h2) (e1 : ∀ Q, pGo m1 0 L1 [] h Q = Q (some (.int x), h1)) (e2 : ∀ Q, pGo m2 0 L2 [] h1 Q = Q (some (.int x), h2)) : EV X h m1 L1 m2 L2 :=
  ⟨x, h1, h2, e1, e2, ⟨hd, un, V, wt, W, d, B, F, Sl, R.cg (f1.tr f2).xc, (f1.tr f2).mr N⟩, (f1.tr f2).stp, f1.stp.1, by rw [f1.fk]⟩
theorem ev_no {m1 m2 : Nat} {L1 L2 : pm_L} (x : Int32) (R : XR h X hd un V wt W d B F Sl) (N : MR h (X + 115) hd un V wt W) (e1 : ∀ Q, pGo m1 0 L1 [] h Q = Q (some (.int x), h)) (e2 : ∀ Q, pGo m2 0 L2 [] h Q = Q (some (.int x), h)) : EV X h m1 L1 m2 L2 := ev_frm x R N (FRM.rf _ _ _) (FRM.rf _ _ _) e1 e2
theorem XF.mr {h h' : pm_H} (f : XF X h h') (N : MR h (X + 115) hd un V wt W) : MR h' (X + 115) hd un V wt W :=
  N.cg (fun q a b => ⟨(f.c q (by omega)).1, (f.c q (by omega)).2.2.2⟩) (fun k _ _ _ => by rw [(f.c (X + 115) (by omega)).2.1]) ((f.c (X + 115 + 1) (by omega)).2.1) ((f.c (X + 115 + 2) (by omega)).2.1)
theorem evG {ho : pm_H} {m1 m2 : Nat} {L1 L2 : pm_L} (fx : Int32 → Int32) (f0 : FRM X (X + 115) ho h) (R : XR h X hd un V wt W d B F Sl) (N : MR h (X + 115) hd un V wt W) (hv : ∀ e, e < 980 → v e = V hd e) (s : SI v n c p lo r rl) (q : RI v C H P) (t : DV h d v n C H) (s' : SI v' n' c' p' lo' r' rl') (q' : RI v' C' H' P')
    (hx : ∀ h1, (∀ Q, pGo 112 0 [some (.ref X)] [] h Q = Q (none, h1)) → DV h1 d v n C H → FRD B (B + 53) h h1 → ∃ h2, DV h2 d v' n' C' H' ∧ FRD d (d + 53) h1 h2 ∧ ∀ h3 (x : Bool), (∀ Q, pGo 113 0 [some (.ref X)] [] h2 Q = Q (some (.int (nb x)), h3)) → ∀ Q, pGo m1 0 L1 [] ho Q = Q (some (.int (fx (nb x))), h3))
    (hm : ∀ h3, MR h3 (X + 115) hd un V wt W → rI h3 (X + 115 + 1) = rI h (X + 115 + 1) → ∃ hb, FRM X (X + 115) h3 hb ∧ ∀ h6 (x : Bool), (∀ Q, pGo 125 0 [some (.ref (X + 115)), none, none] [] (HM (mB hb (X + 115) hd) (X + 115) (rI (mB hb (X + 115) hd) (X + 115 + 1)) 40180 v') Q = Q (some (.int (nb x)), h6)) → ∀ Q, pGo m2 0 L2 [] h3 Q = Q (some (.int (fx (nb x))), h6)) : EV X ho m1 L1 m2 L2 := by
  obtain ⟨h1, eb, tB, td, f1⟩ := x_begin R s q t
  obtain ⟨h2, t2, f2, k2⟩ := hx h1 eb td f1
  obtain ⟨h3, B', F', Sl', ee, R3, f3⟩ := x_end R f1 f2 hv s q tB s' q' t2
  have N3 := f3.mr N
  obtain ⟨hb, fb, km⟩ := hm h3 N3 (f3.c (X + 115 + 1) (by omega)).2.1
  have Nb := fb.mr N3
  obtain ⟨h6, e6, N6, f6⟩ := m_end1 (v := v) (v' := v') Nb hv
  refine ⟨_, h3, h6, k2 h3 _ ee, km h6 _ e6, ⟨_, _, _, _, _, _, _, _, _, (R3.cg fb.xc).cg f6.xc, N6⟩, STP.tr1 f0 ⟨fun z hz => ?_, ?_, ?_⟩, fun z hz => (f0.stp.1 z hz).tr (f3.c z (by omega)), by rw [(f3.c (X + 115) (by omega)).1, f0.fk]⟩
  · exact ((f3.c z (by omega)).tr (fb.stp.1 z hz)).tr ⟨by rw [f6.fk], (f6.c z (by omega)).1, (f6.c z (by omega)).2, by rw [f6.fp]⟩
  · rw [f6.fz, fb.fz]; exact f3.z
  · rw [f6.fs, fb.fs]; exact f3.s
/-- the usual event: nothing but begin, the change, end -/
theorem evU {m1 m2 : Nat} {L1 L2 : pm_L} (fx : Int32 → Int32) (R : XR h X hd un V wt W d B F Sl) (N : MR h (X + 115) hd un V wt W) (hvb : v = bV (rI h (X + 115 + 1)) hd) (s : SI v n c p lo r rl) (q : RI v C H P) (t : DV h d v n C H) (s' : SI v' n' c' p' lo' r' rl') (q' : RI v' C' H' P')
    (hx : ∀ h1, (∀ Q, pGo 112 0 [some (.ref X)] [] h Q = Q (none, h1)) → DV h1 d v n C H → FRD B (B + 53) h h1 → ∃ h2, DV h2 d v' n' C' H' ∧ FRD d (d + 53) h1 h2 ∧ ∀ h3 (x : Bool), (∀ Q, pGo 113 0 [some (.ref X)] [] h2 Q = Q (some (.int (nb x)), h3)) → ∀ Q, pGo m1 0 L1 [] h Q = Q (some (.int (fx (nb x))), h3))
    (hm : ∀ h3 hb v0, MV h3 (X + 115) (980 * hd) v0 → (∀ e, e < 980 → v0 e = v e) → MV hb (X + 115) 40180 v → (∀ Q, pGo 124 0 [some (.ref (X + 115))] [] h3 Q = Q (none, hb)) → ∀ h6 (x : Bool), (∀ Q, pGo 125 0 [some (.ref (X + 115)), none, none] [] (HM hb (X + 115) (rI hb (X + 115 + 1)) 40180 v') Q = Q (some (.int (nb x)), h6)) → ∀ Q, pGo m2 0 L2 [] h3 Q = Q (some (.int (fx (nb x))), h6)) : EV X h m1 L1 m2 L2 := by
  have hv : ∀ e, e < 980 → v e = V hd e := fun e he => by rw [hvb]; exact bV_eq N he
  refine evG fx (FRM.rf _ _ _) R N hv s q t s' q' hx (fun h3 N3 e3 => ⟨h3, FRM.rf _ _ _, fun h6 x e6 Q => ?_⟩)
  have h40 := N3.h40
  refine hm h3 (mB h3 (X + 115) hd) (fun e => rI h3 (X + 115 + 1) (980 * hd + e)) ⟨N3.k, N3.m3, by omega, fun e => rfl⟩ (fun e he => ?_) ?_ (m_begin N3) h6 x e6 Q
  · rw [hv e he]; exact N3.vv hd e (by omega) he
  · have := m_bmv N3
    rw [e3, ← hvb] at this
    exact this
/-- the vector in use, with all that holds of it -/
theorem rel_v (R : XR h X hd un V wt W d B F Sl) (N : MR h (X + 115) hd un V wt W) : ∃ (n c : Nat) (p lo r rl C H P : Nat → Nat), SI (bV (rI h (X + 115 + 1)) hd) n c p lo r rl ∧ RI (bV (rI h (X + 115 + 1)) hd) C H P ∧ DV h d (bV (rI h (X + 115 + 1)) hd) n C H := R.gd.cgv (fun e he => bV_eq N he)
/-- is a window there: the desk's answer -/
theorem has_dv (t : DV h d v n C H) (q : RI v C H P) (w : Int32) (Q : Option Value × pm_H → Prop) : pGo 13 0 [some (.ref d), some (.int w)] [] h Q = Q (some (.int (nb (thereV v w))), h) := by
  rw [s_Desk_has t.k]
  congr 5
  rcases isin_cases w (n := 60) (by omega) with ⟨z, -⟩ | ⟨j, hj, rfl, z⟩
  · simp only [thereV, z, decide_false, Bool.false_and]
  · simp only [thereV, z, decide_true, Bool.true_and, ar_cl (show j < 2147483648 by omega)]
    rw [t.hom j hj]
    by_cases e : v (620 + 6 * j) = nI 1
    · have := (q.hp j hj e).1
      simp only [e, if_true, decide_true, ar_nm (show H j < 2147483648 by omega), not_false_eq_true]
    · simp only [e, if_false, decide_false, not_true_eq_false]
theorem there_y {w : Int32} (ht : thereV v w = true) : ∃ j, j < 60 ∧ w = nI j ∧ v (620 + 6 * j) = nI 1 := by
  simp only [thereV, Bool.and_eq_true, decide_eq_true_eq] at ht
  rcases isin_cases w (n := 60) (by omega) with ⟨z, -⟩ | ⟨j, hj, rfl, z⟩
  · rw [z] at ht; exact absurd ht.1 id
  · rw [ar_cl (by omega)] at ht
    exact ⟨j, hj, rfl, ht.2⟩
theorem there_cg {v0 : Nat → Int32} (e : ∀ x, x < 980 → v0 x = v x) (w : Int32) : thereV v0 w = thereV v w := by
  rcases isin_cases w (n := 60) (by omega) with ⟨z, -⟩ | ⟨j, hj, rfl, z⟩
  · simp only [thereV, z, decide_false, Bool.false_and]
  · simp only [thereV, ar_cl (show j < 2147483648 by omega)]
    rw [e _ (by omega)]
theorem s_isWs (w : Int32) (h : pm_H) (Q : Option Value × pm_H → Prop) : pGo 114 0 [some (.int w)] [] h Q = Q (some (.int (nb (decide (nI 0 ≤ w ∧ w < nI 9)))), h) := by
  have e1 : w < nI 0 ↔ ¬ nI 0 ≤ w := by rw [Int32.not_le]
  have e2 : nI 9 ≤ w ↔ ¬ w < nI 9 := by rw [Int32.not_lt]
  simp only [k114_0, k114_1, k114_4, k114_5, k114_7, k114_10, k114_11, k114_14, k114_15, if_true, if_false, ite_true, ite_false, not_true_eq_false, not_false_eq_true, true_or, or_true, false_or, or_false, and_self, ok_n0, ok_ni, ok_nr, ok_nl, va_rf_some, va_rf_none, true_and, and_true, List.length_nil, List.length_cons, Option.toList_some, Option.toList_none, List.cons_append, List.nil_append, rK_uA, rK_uI, rK_uJ, rK_uP, rP_uA, rP_uI, rP_uJ, rJ_uA, rJ_uI, rJ_uP, rI_uJ, rI_uP, rz_uA, rz_uI, rz_uJ, rz_uP, rs_uA, rs_uI, rs_uJ, rs_uP, Nat.reduceAdd, Nat.reduceMul, Nat.reduceSub, Nat.reduceLeDiff, Nat.reduceLT, Nat.reduceEqDiff, Nat.add_zero, Nat.zero_add, Nat.zero_le, e1, e2]
  by_cases c1 : nI 0 ≤ w
  · by_cases c2 : w < nI 9
    · simp only [c1, c2, if_true, if_false, ite_true, ite_false, not_true_eq_false, not_false_eq_true, true_or, or_true, false_or, or_false, and_self, ok_n0, ok_ni, ok_nr, ok_nl, va_rf_some, va_rf_none, true_and, and_true, List.length_nil, List.length_cons, Option.toList_some, Option.toList_none, List.cons_append, List.nil_append, rK_uA, rK_uI, rK_uJ, rK_uP, rP_uA, rP_uI, rP_uJ, rJ_uA, rJ_uI, rJ_uP, rI_uJ, rI_uP, rz_uA, rz_uI, rz_uJ, rz_uP, rs_uA, rs_uI, rs_uJ, rs_uP, Nat.reduceAdd, Nat.reduceMul, Nat.reduceSub, Nat.reduceLeDiff, Nat.reduceLT, Nat.reduceEqDiff, Nat.add_zero, Nat.zero_add, Nat.zero_le, decide_true, nb_t]
    · simp only [c1, c2, if_true, if_false, ite_true, ite_false, not_true_eq_false, not_false_eq_true, true_or, or_true, false_or, or_false, and_self, ok_n0, ok_ni, ok_nr, ok_nl, va_rf_some, va_rf_none, true_and, and_true, List.length_nil, List.length_cons, Option.toList_some, Option.toList_none, List.cons_append, List.nil_append, rK_uA, rK_uI, rK_uJ, rK_uP, rP_uA, rP_uI, rP_uJ, rJ_uA, rJ_uI, rJ_uP, rI_uJ, rI_uP, rz_uA, rz_uI, rz_uJ, rz_uP, rs_uA, rs_uI, rs_uJ, rs_uP, Nat.reduceAdd, Nat.reduceMul, Nat.reduceSub, Nat.reduceLeDiff, Nat.reduceLT, Nat.reduceEqDiff, Nat.add_zero, Nat.zero_add, Nat.zero_le, and_false, decide_false, nb_f]
  · simp only [c1, if_true, if_false, ite_true, ite_false, not_true_eq_false, not_false_eq_true, true_or, or_true, false_or, or_false, and_self, ok_n0, ok_ni, ok_nr, ok_nl, va_rf_some, va_rf_none, true_and, and_true, List.length_nil, List.length_cons, Option.toList_some, Option.toList_none, List.cons_append, List.nil_append, rK_uA, rK_uI, rK_uJ, rK_uP, rP_uA, rP_uI, rP_uJ, rJ_uA, rJ_uI, rJ_uP, rI_uJ, rI_uP, rz_uA, rz_uI, rz_uJ, rz_uP, rs_uA, rs_uI, rs_uJ, rs_uP, Nat.reduceAdd, Nat.reduceMul, Nat.reduceSub, Nat.reduceLeDiff, Nat.reduceLT, Nat.reduceEqDiff, Nat.add_zero, Nat.zero_add, Nat.zero_le, false_and, decide_false, nb_f]
theorem e_view (R : XR h X hd un V wt W d B F Sl) (N : MR h (X + 115) hd un V wt W) (a : Int32) (b : Bool) : EV X h 90 [some (.ref X), some (.int a), some (.int (nb b))] 143 [some (.ref (X + 115)), some (.int a), some (.int (nb b))] := by
  rcases isin_cases a (n := 9) (by omega) with ⟨z, -⟩ | ⟨i, hi, rfl, z⟩
  · refine ev_no (nI 0) R N (fun Q => ?_) (fun Q => ?_)
    · simp only [k90_0, k90_1, k90_4, k90_7, k90_8, k90_9, k90_10, k90_13, k90_14, k90_17, k90_18, k90_21, k90_24, k90_25, k90_28, k90_31, k90_32, k90_35, k90_38, k90_39, k90_42, k90_43, k90_46, s_isWs, z, if_true, if_false, ite_true, ite_false, not_true_eq_false, not_false_eq_true, true_or, or_true, false_or, or_false, and_self, ok_n0, ok_ni, ok_nr, ok_nl, va_rf_some, va_rf_none, true_and, and_true, List.length_nil, List.length_cons, Option.toList_some, Option.toList_none, List.cons_append, List.nil_append, rK_uA, rK_uI, rK_uJ, rK_uP, rP_uA, rP_uI, rP_uJ, rJ_uA, rJ_uI, rJ_uP, rI_uJ, rI_uP, rz_uA, rz_uI, rz_uJ, rz_uP, rs_uA, rs_uI, rs_uJ, rs_uP, Nat.reduceAdd, Nat.reduceMul, Nat.reduceSub, Nat.reduceLeDiff, Nat.reduceLT, Nat.reduceEqDiff, Nat.add_zero, Nat.zero_add, Nat.zero_le, decide_false, nb_f]
    · simp only [k143_0, k143_1, k143_3, k143_6, k143_9, k143_10, k143_11, k143_12, k143_15, k143_16, k143_17, k143_18, k143_21, k143_22, k143_25, s_isIn, z, if_true, if_false, ite_true, ite_false, not_true_eq_false, not_false_eq_true, true_or, or_true, false_or, or_false, and_self, ok_n0, ok_ni, ok_nr, ok_nl, va_rf_some, va_rf_none, true_and, and_true, List.length_nil, List.length_cons, Option.toList_some, Option.toList_none, List.cons_append, List.nil_append, rK_uA, rK_uI, rK_uJ, rK_uP, rP_uA, rP_uI, rP_uJ, rJ_uA, rJ_uI, rJ_uP, rI_uJ, rI_uP, rz_uA, rz_uI, rz_uJ, rz_uP, rs_uA, rs_uI, rs_uJ, rs_uP, Nat.reduceAdd, Nat.reduceMul, Nat.reduceSub, Nat.reduceLeDiff, Nat.reduceLT, Nat.reduceEqDiff, Nat.add_zero, Nat.zero_add, Nat.zero_le, decide_false, nb_f]
  · obtain ⟨n, c, p, lo, r, rl, C, H, P, s, q, t⟩ := rel_v R N
    generalize hvb : bV (rI h (X + 115 + 1)) hd = v at s q t
    obtain ⟨v', c', p', lo', r', rl', s', Vw, -⟩ := view_all s hi b
    refine evU (fun x => x) R N hvb.symm s q t s' (q.cg (fun e h1 _ => Vw.1.1 e h1)) (fun h1 eb t1 f1 => ?_) (fun h3 hb v0 T0 e0 T Bg h6 x E Q => ?_)
    · obtain ⟨h2, x2, D2, f2⟩ := Vw.2.2 h1 d t1.dvs
      have F2 : FRD d (d + 53) h1 h2 := f2.mono (by omega) (by omega)
      refine ⟨h2, t1.vw D2 f2 Vw.1, F2, fun h3 x E Q => ?_⟩
      have kX := R.xk.1
      have dk := t.k.1
      have d2 := t.k.2.2.2.2.2.2.2.2.1
      have sk := t.k.2.2.2.2.2.2.2.2.2.1.1
      cases b with
      | false =>
        rw [brm_f] at x2
        simp only [k90_0, k90_1, k90_4, k90_7, k90_8, k90_9, k90_10, k90_13, k90_14, k90_17, k90_18, k90_21, k90_24, k90_25, k90_28, k90_31, k90_32, k90_35, k90_38, k90_39, k90_42, k90_43, k90_46, s_isWs, z, eb, x2, E, nb_ok, if_true, if_false, ite_true, ite_false, not_true_eq_false, not_false_eq_true, true_or, or_true, false_or, or_false, and_self, ok_n0, ok_ni, ok_nr, ok_nl, va_rf_some, va_rf_none, true_and, and_true, List.length_nil, List.length_cons, Option.toList_some, Option.toList_none, List.cons_append, List.nil_append, rK_uA, rK_uI, rK_uJ, rK_uP, rP_uA, rP_uI, rP_uJ, rJ_uA, rJ_uI, rJ_uP, rI_uJ, rI_uP, rz_uA, rz_uI, rz_uJ, rz_uP, rs_uA, rs_uI, rs_uJ, rs_uP, Nat.reduceAdd, Nat.reduceMul, Nat.reduceSub, Nat.reduceLeDiff, Nat.reduceLT, Nat.reduceEqDiff, Nat.add_zero, Nat.zero_add, Nat.zero_le, decide_true, nb_t, nb_f, n1_0, kX, R.pd, dk, d2, sk, f1.fk, f1.fp, F2.fk, F2.fp]
      | true =>
        rw [brm_t] at x2
        simp only [k90_0, k90_1, k90_4, k90_7, k90_8, k90_9, k90_10, k90_13, k90_14, k90_17, k90_18, k90_21, k90_24, k90_25, k90_28, k90_31, k90_32, k90_35, k90_38, k90_39, k90_42, k90_43, k90_46, s_isWs, z, eb, x2, E, nb_ok, if_true, if_false, ite_true, ite_false, not_true_eq_false, not_false_eq_true, true_or, or_true, false_or, or_false, and_self, ok_n0, ok_ni, ok_nr, ok_nl, va_rf_some, va_rf_none, true_and, and_true, List.length_nil, List.length_cons, Option.toList_some, Option.toList_none, List.cons_append, List.nil_append, rK_uA, rK_uI, rK_uJ, rK_uP, rP_uA, rP_uI, rP_uJ, rJ_uA, rJ_uI, rJ_uP, rI_uJ, rI_uP, rz_uA, rz_uI, rz_uJ, rz_uP, rs_uA, rs_uI, rs_uJ, rs_uP, Nat.reduceAdd, Nat.reduceMul, Nat.reduceSub, Nat.reduceLeDiff, Nat.reduceLT, Nat.reduceEqDiff, Nat.add_zero, Nat.zero_add, Nat.zero_le, decide_true, nb_t, n1_0, kX, R.pd, dk, d2, sk, f1.fk, f1.fp, F2.fk, F2.fp]
    · have m1 := Vw.2.1 hb (X + 115) 40180 T
      simp only [k143_0, k143_1, k143_3, k143_6, k143_9, k143_10, k143_11, k143_12, k143_15, k143_16, k143_17, k143_18, k143_21, k143_22, k143_25, s_isIn, z, Bg, m1, E, nb_ok, if_true, if_false, ite_true, ite_false, not_true_eq_false, not_false_eq_true, true_or, or_true, false_or, or_false, and_self, ok_n0, ok_ni, ok_nr, ok_nl, va_rf_some, va_rf_none, true_and, and_true, List.length_nil, List.length_cons, Option.toList_some, Option.toList_none, List.cons_append, List.nil_append, rK_uA, rK_uI, rK_uJ, rK_uP, rP_uA, rP_uI, rP_uJ, rJ_uA, rJ_uI, rJ_uP, rI_uJ, rI_uP, rz_uA, rz_uI, rz_uJ, rz_uP, rs_uA, rs_uI, rs_uJ, rs_uP, Nat.reduceAdd, Nat.reduceMul, Nat.reduceSub, Nat.reduceLeDiff, Nat.reduceLT, Nat.reduceEqDiff, Nat.add_zero, Nat.zero_add, Nat.zero_le, decide_true, nb_t, n1_0, T0.1.1, T.1.1, rK_HM]
theorem e_send (R : XR h X hd un V wt W d B F Sl) (N : MR h (X + 115) hd un V wt W) (a b : Int32) : EV X h 92 [some (.ref X), some (.int a), some (.int b)] 145 [some (.ref (X + 115)), some (.int a), some (.int b)] := by
  obtain ⟨n, c, p, lo, r, rl, C, H, P, s, q, t⟩ := rel_v R N
  generalize hvb : bV (rI h (X + 115 + 1)) hd = v at s q t
  have hv : ∀ e, e < 980 → v e = V hd e := fun e he => by rw [← hvb]; exact bV_eq N he
  have h40 := N.h40
  have T0 : MV h (X + 115) (980 * hd) (fun e => rI h (X + 115 + 1) (980 * hd + e)) := ⟨N.k, N.m3, by omega, fun e => rfl⟩
  have e0 : ∀ e, e < 980 → (fun e => rI h (X + 115 + 1) (980 * hd + e)) e = v e := fun e he => by rw [hv e he]; exact N.vv hd e (by omega) he
  have kX := R.xk.1
  have dk := t.k.1
  cases ht : thereV v a with
  | false =>
    refine ev_no (nI 0) R N (fun Q => ?_) (fun Q => ?_)
    · simp only [k92_0, k92_1, k92_4, k92_5, k92_8, k92_11, k92_12, k92_15, k92_18, k92_19, k92_20, k92_21, k92_24, k92_25, k92_28, k92_29, k92_30, k92_33, k92_34, k92_37, has_dv t q, ht, if_true, if_false, ite_true, ite_false, not_true_eq_false, not_false_eq_true, true_or, or_true, false_or, or_false, and_self, ok_n0, ok_ni, ok_nr, ok_nl, va_rf_some, va_rf_none, true_and, and_true, List.length_nil, List.length_cons, Option.toList_some, Option.toList_none, List.cons_append, List.nil_append, rK_uA, rK_uI, rK_uJ, rK_uP, rP_uA, rP_uI, rP_uJ, rJ_uA, rJ_uI, rJ_uP, rI_uJ, rI_uP, rz_uA, rz_uI, rz_uJ, rz_uP, rs_uA, rs_uI, rs_uJ, rs_uP, Nat.reduceAdd, Nat.reduceMul, Nat.reduceSub, Nat.reduceLeDiff, Nat.reduceLT, Nat.reduceEqDiff, Nat.add_zero, Nat.zero_add, Nat.zero_le, nb_f, kX, R.pd, dk]
    · simp only [k145_0, k145_1, k145_2, k145_5, k145_8, k145_9, k145_11, k145_14, k145_17, k145_18, k145_19, k145_20, k145_23, k145_24, k145_25, k145_26, k145_29, k145_30, k145_33, s_isThere T0, there_cg e0, ht, if_true, if_false, ite_true, ite_false, not_true_eq_false, not_false_eq_true, true_or, or_true, false_or, or_false, and_self, ok_n0, ok_ni, ok_nr, ok_nl, va_rf_some, va_rf_none, true_and, and_true, List.length_nil, List.length_cons, Option.toList_some, Option.toList_none, List.cons_append, List.nil_append, rK_uA, rK_uI, rK_uJ, rK_uP, rP_uA, rP_uI, rP_uJ, rJ_uA, rJ_uI, rJ_uP, rI_uJ, rI_uP, rz_uA, rz_uI, rz_uJ, rz_uP, rs_uA, rs_uI, rs_uJ, rs_uP, Nat.reduceAdd, Nat.reduceMul, Nat.reduceSub, Nat.reduceLeDiff, Nat.reduceLT, Nat.reduceEqDiff, Nat.add_zero, Nat.zero_add, Nat.zero_le, nb_f, T0.1.1]
  | true =>
    obtain ⟨w, hw, rfl, hw1⟩ := there_y ht
    rcases isin_cases b (n := 9) (by omega) with ⟨z, -⟩ | ⟨j, hj, rfl, z⟩
    · refine ev_no (nI 0) R N (fun Q => ?_) (fun Q => ?_)
      · simp only [k92_0, k92_1, k92_4, k92_5, k92_8, k92_11, k92_12, k92_15, k92_18, k92_19, k92_20, k92_21, k92_24, k92_25, k92_28, k92_29, k92_30, k92_33, k92_34, k92_37, has_dv t q, ht, s_isWs, z, if_true, if_false, ite_true, ite_false, not_true_eq_false, not_false_eq_true, true_or, or_true, false_or, or_false, and_self, ok_n0, ok_ni, ok_nr, ok_nl, va_rf_some, va_rf_none, true_and, and_true, List.length_nil, List.length_cons, Option.toList_some, Option.toList_none, List.cons_append, List.nil_append, rK_uA, rK_uI, rK_uJ, rK_uP, rP_uA, rP_uI, rP_uJ, rJ_uA, rJ_uI, rJ_uP, rI_uJ, rI_uP, rz_uA, rz_uI, rz_uJ, rz_uP, rs_uA, rs_uI, rs_uJ, rs_uP, Nat.reduceAdd, Nat.reduceMul, Nat.reduceSub, Nat.reduceLeDiff, Nat.reduceLT, Nat.reduceEqDiff, Nat.add_zero, Nat.zero_add, Nat.zero_le, nb_f, nb_t, n1_0, decide_false, kX, R.pd, dk]
      · simp only [k145_0, k145_1, k145_2, k145_5, k145_8, k145_9, k145_11, k145_14, k145_17, k145_18, k145_19, k145_20, k145_23, k145_24, k145_25, k145_26, k145_29, k145_30, k145_33, s_isThere T0, there_cg e0, ht, s_isIn, z, if_true, if_false, ite_true, ite_false, not_true_eq_false, not_false_eq_true, true_or, or_true, false_or, or_false, and_self, ok_n0, ok_ni, ok_nr, ok_nl, va_rf_some, va_rf_none, true_and, and_true, List.length_nil, List.length_cons, Option.toList_some, Option.toList_none, List.cons_append, List.nil_append, rK_uA, rK_uI, rK_uJ, rK_uP, rP_uA, rP_uI, rP_uJ, rJ_uA, rJ_uI, rJ_uP, rI_uJ, rI_uP, rz_uA, rz_uI, rz_uJ, rz_uP, rs_uA, rs_uI, rs_uJ, rs_uP, Nat.reduceAdd, Nat.reduceMul, Nat.reduceSub, Nat.reduceLeDiff, Nat.reduceLT, Nat.reduceEqDiff, Nat.add_zero, Nat.zero_add, Nat.zero_le, nb_f, nb_t, n1_0, decide_false, T0.1.1]
    · by_cases hne : H w = j
      · refine evU (v' := v) (fun x => x) R N hvb.symm s q t s q (fun h1 eb t1 f1 => ⟨h1, t1, FRD.rf _ _ _, fun h3 x E Q => ?_⟩) (fun h3 hb v0 T0 e0 T Bg h6 x E Q => ?_)
        · have hom := t1.hom w hw
          rw [if_pos hw1, hne] at hom
          simp (disch := omega) only [k92_0, k92_1, k92_4, k92_5, k92_8, k92_11, k92_12, k92_15, k92_18, k92_19, k92_20, k92_21, k92_24, k92_25, k92_28, k92_29, k92_30, k92_33, k92_34, k92_37, k20_0, k20_1, k20_4, k20_5, k20_6, k20_7, k20_8, k20_9, k20_12, k20_13, k20_14, k20_17, k20_20, k20_22, k20_23, k20_26, k20_27, k20_30, k20_31, k20_32, k20_35, k20_36, k20_39, k20_41, k20_44, k20_45, k20_48, k20_49, k20_52, k20_53, k20_54, k20_55, k20_58, k20_59, k20_62, k20_64, k20_67, has_dv t q, ht, s_isWs, z, eb, hom, E, nb_ok, if_true, if_false, ite_true, ite_false, not_true_eq_false, not_false_eq_true, true_or, or_true, false_or, or_false, and_self, ok_n0, ok_ni, ok_nr, ok_nl, va_rf_some, va_rf_none, true_and, and_true, List.length_nil, List.length_cons, Option.toList_some, Option.toList_none, List.cons_append, List.nil_append, rK_uA, rK_uI, rK_uJ, rK_uP, rP_uA, rP_uI, rP_uJ, rJ_uA, rJ_uI, rJ_uP, rI_uJ, rI_uP, rz_uA, rz_uI, rz_uJ, rz_uP, rs_uA, rs_uI, rs_uJ, rs_uP, Nat.reduceAdd, Nat.reduceMul, Nat.reduceSub, Nat.reduceLeDiff, Nat.reduceLT, Nat.reduceEqDiff, Nat.add_zero, Nat.zero_add, Nat.zero_le, nb_t, n1_0, decide_true, kX, R.pd, dk, t.k.2.2.2.2.2.2.2.2.2.2.2.2.1, t.k.2.2.2.2.2.2.2.2.2.2.2.2.2, f1.fk, f1.fp, ar_oki, ar_cl, hw]
        · have ho := s_homeOf T q.ct q.c60 (nI w)
          rw [q.hom_y hw hw1, hne] at ho
          rw [← HM_of T.2.2.2] at E
          simp only [k145_0, k145_1, k145_2, k145_5, k145_8, k145_9, k145_11, k145_14, k145_17, k145_18, k145_19, k145_20, k145_23, k145_24, k145_25, k145_26, k145_29, k145_30, k145_33, k137_0, k137_1, k137_2, k137_5, k137_6, k137_7, k137_8, k137_11, k137_12, k137_13, k137_16, k137_18, k137_19, k137_20, k137_21, k137_24, k137_25, k137_26, k137_27, k137_30, k137_31, k137_33, k137_34, k137_37, k137_38, k137_39, k137_40, k137_43, k137_44, k137_45, k137_46, k137_49, k137_50, k137_52, k137_53, k137_56, s_isThere T0, there_cg e0, ht, s_isIn, z, Bg, ho, E, nb_ok, if_true, if_false, ite_true, ite_false, not_true_eq_false, not_false_eq_true, true_or, or_true, false_or, or_false, and_self, ok_n0, ok_ni, ok_nr, ok_nl, va_rf_some, va_rf_none, true_and, and_true, List.length_nil, List.length_cons, Option.toList_some, Option.toList_none, List.cons_append, List.nil_append, rK_uA, rK_uI, rK_uJ, rK_uP, rP_uA, rP_uI, rP_uJ, rJ_uA, rJ_uI, rJ_uP, rI_uJ, rI_uP, rz_uA, rz_uI, rz_uJ, rz_uP, rs_uA, rs_uI, rs_uJ, rs_uP, Nat.reduceAdd, Nat.reduceMul, Nat.reduceSub, Nat.reduceLeDiff, Nat.reduceLT, Nat.reduceEqDiff, Nat.add_zero, Nat.zero_add, Nat.zero_le, nb_t, n1_0, decide_true, T0.1.1, T.1.1]
      · obtain ⟨v', c', p', lo', r', rl', C', H', P', s', q', mm, dd⟩ := carry_all s q hw hw1 hj hne
        refine evU (fun x => x) R N hvb.symm s q t s' q' (fun h1 eb t1 f1 => ?_) (fun h3 hb v0 T0 e0 T Bg h6 x E Q => ?_)
        · obtain ⟨h2, x2, t2, f2⟩ := dd h1 d t1
          refine ⟨h2, t2, f2, fun h3 x E Q => ?_⟩
          simp only [k92_0, k92_1, k92_4, k92_5, k92_8, k92_11, k92_12, k92_15, k92_18, k92_19, k92_20, k92_21, k92_24, k92_25, k92_28, k92_29, k92_30, k92_33, k92_34, k92_37, has_dv t q, ht, s_isWs, z, eb, x2, E, nb_ok, if_true, if_false, ite_true, ite_false, not_true_eq_false, not_false_eq_true, true_or, or_true, false_or, or_false, and_self, ok_n0, ok_ni, ok_nr, ok_nl, va_rf_some, va_rf_none, true_and, and_true, List.length_nil, List.length_cons, Option.toList_some, Option.toList_none, List.cons_append, List.nil_append, rK_uA, rK_uI, rK_uJ, rK_uP, rP_uA, rP_uI, rP_uJ, rJ_uA, rJ_uI, rJ_uP, rI_uJ, rI_uP, rz_uA, rz_uI, rz_uJ, rz_uP, rs_uA, rs_uI, rs_uJ, rs_uP, Nat.reduceAdd, Nat.reduceMul, Nat.reduceSub, Nat.reduceLeDiff, Nat.reduceLT, Nat.reduceEqDiff, Nat.add_zero, Nat.zero_add, Nat.zero_le, nb_t, n1_0, decide_true, kX, R.pd, dk, f1.fk, f1.fp, f2.fk, f2.fp]
        · have m1 := mm hb (X + 115) 40180 T
          simp only [k145_0, k145_1, k145_2, k145_5, k145_8, k145_9, k145_11, k145_14, k145_17, k145_18, k145_19, k145_20, k145_23, k145_24, k145_25, k145_26, k145_29, k145_30, k145_33, s_isThere T0, there_cg e0, ht, s_isIn, z, Bg, m1, E, nb_ok, if_true, if_false, ite_true, ite_false, not_true_eq_false, not_false_eq_true, true_or, or_true, false_or, or_false, and_self, ok_n0, ok_ni, ok_nr, ok_nl, va_rf_some, va_rf_none, true_and, and_true, List.length_nil, List.length_cons, Option.toList_some, Option.toList_none, List.cons_append, List.nil_append, rK_uA, rK_uI, rK_uJ, rK_uP, rP_uA, rP_uI, rP_uJ, rJ_uA, rJ_uI, rJ_uP, rI_uJ, rI_uP, rz_uA, rz_uI, rz_uJ, rz_uP, rs_uA, rs_uI, rs_uJ, rs_uP, Nat.reduceAdd, Nat.reduceMul, Nat.reduceSub, Nat.reduceLeDiff, Nat.reduceLT, Nat.reduceEqDiff, Nat.add_zero, Nat.zero_add, Nat.zero_le, nb_t, n1_0, decide_true, T0.1.1, T.1.1, rK_HM]
end EVS
