/-! EVENTS, 3 -/
theorem le_lt1 (a : Int32) {m : Nat} (hm : m + 1 < 2147483648) : (a ≤ nI m) = (a < nI (m + 1)) := by
  rw [Int32.le_iff_toInt_le, Int32.lt_iff_toInt_lt, nI_toInt (by omega), nI_toInt hm]
  exact propext ⟨fun h => by omega, fun h => by omega⟩
section EVS3
variable {h : pm_H} {X hd un wt d B F : Nat} {V : Nat → Nat → Int32} {W : Nat → Int32} {Sl : Nat → Option Nat}
variable {v v' : Nat → Int32} {n c n' c' : Nat} {p lo r rl C H P p' lo' r' rl' C' H' P' : Nat → Nat}
theorem rem_cgS {a b : Nat → Int32} {i p c : Nat} (hi : i < 9) (hp : p < c) (hc : c ≤ 60) (ha : ∀ e, 35 ≤ e → e < 620 → a e = b e) : ∀ e, 35 ≤ e → e < 620 → remV a i p c e = remV b i p c e := by
  intro e h1 h2
  simp only [remV, upd_at, va_cpy]
  rw [ha (35 + 65 * i + 4) (by omega) (by omega)]
  by_cases c1 : e = 35 + 65 * i + 4
  · rw [if_pos c1, if_pos c1]
  · rw [if_neg c1, if_neg c1]
    by_cases c2 : e = 35 + 65 * i + 3
    · rw [if_pos c2, if_pos c2]
    · rw [if_neg c2, if_neg c2]
      by_cases c3 : e = 35 + 65 * i + 5 + (c - 1)
      · rw [if_pos c3, if_pos c3]
      · rw [if_neg c3, if_neg c3]
        split
        · exact ha _ (by omega) (by omega)
        · exact ha _ h1 h2
theorem e_close (R : XR h X hd un V wt W d B F Sl) (N : MR h (X + 115) hd un V wt W) (a : Int32) : EV X h 88 [some (.ref X), some (.int a)] 141 [some (.ref (X + 115)), some (.int a)] := by
  obtain ⟨n, c, p, lo, r, rl, C, H, P, s, q, t⟩ := rel_v R N
  obtain ⟨v0, T0, e0⟩ := now_mv N
  generalize hvb : bV (rI h (X + 115 + 1)) hd = v at s q t e0
  have kX := R.xk.1
  have dk := t.k.1
  cases ht : thereV v a with
  | false =>
    refine ev_no (nI 0) R N (fun Q => ?_) (fun Q => ?_)
    · simp only [k88_0, k88_1, k88_4, k88_5, k88_8, k88_11, k88_12, k88_13, k88_14, k88_17, k88_18, k88_21, k88_24, k88_25, k88_28, k88_29, k88_32, k88_33, k88_36, k88_37, k88_40, has_dv t q, ht, if_true, if_false, ite_true, ite_false, not_true_eq_false, not_false_eq_true, true_or, or_true, false_or, or_false, and_self, ok_n0, ok_ni, ok_nr, ok_nl, va_rf_some, va_rf_none, true_and, and_true, List.length_nil, List.length_cons, Option.toList_some, Option.toList_none, List.cons_append, List.nil_append, rK_uA, rK_uI, rK_uJ, rK_uP, rP_uA, rP_uI, rP_uJ, rJ_uA, rJ_uI, rJ_uP, rI_uJ, rI_uP, rz_uA, rz_uI, rz_uJ, rz_uP, rs_uA, rs_uI, rs_uJ, rs_uP, Nat.reduceAdd, Nat.reduceMul, Nat.reduceSub, Nat.reduceLeDiff, Nat.reduceLT, Nat.reduceEqDiff, Nat.add_zero, Nat.zero_add, Nat.zero_le, nb_f, kX, R.pd, dk]
    · simp only [k141_0, k141_1, k141_2, k141_5, k141_8, k141_9, k141_10, k141_11, k141_14, k141_15, k141_16, k141_17, k141_20, k141_21, k141_24, k141_25, k141_26, k141_29, k141_30, k141_33, k141_34, k141_35, k141_38, k141_39, k141_40, k141_41, k141_44, s_isThere T0, there_cg e0, ht, if_true, if_false, ite_true, ite_false, not_true_eq_false, not_false_eq_true, true_or, or_true, false_or, or_false, and_self, ok_n0, ok_ni, ok_nr, ok_nl, va_rf_some, va_rf_none, true_and, and_true, List.length_nil, List.length_cons, Option.toList_some, Option.toList_none, List.cons_append, List.nil_append, rK_uA, rK_uI, rK_uJ, rK_uP, rP_uA, rP_uI, rP_uJ, rJ_uA, rJ_uI, rJ_uP, rI_uJ, rI_uP, rz_uA, rz_uI, rz_uJ, rz_uP, rs_uA, rs_uI, rs_uJ, rs_uP, Nat.reduceAdd, Nat.reduceMul, Nat.reduceSub, Nat.reduceLeDiff, Nat.reduceLT, Nat.reduceEqDiff, Nat.add_zero, Nat.zero_add, Nat.zero_le, nb_f, T0.1.1]
  | true =>
    obtain ⟨w, hw, rfl, hw1⟩ := there_y ht
    obtain ⟨g1, g2, g3⟩ := q.hp w hw hw1
    have hc := q.c60 _ g1
    have eo : ∀ e, e < 980 → upd (snkV (remV v (H w) (P w) (C (H w))) w) (620 + 6 * w) (nI 0) e = goneV v w (H w) (P w) (C (H w)) e := fun e he => by
      rw [upd_at, snk_at, goneV]
      by_cases e1 : e = 620 + 6 * w
      · rw [if_pos e1, if_pos (by omega)]
      · rw [if_neg e1]
        by_cases e2 : 620 + 6 * w + 1 ≤ e ∧ e < 620 + 6 * w + 6
        · rw [if_pos e2, if_pos (by omega)]
        · rw [if_neg e2, if_neg (by omega)]
    have s' : SI (upd (snkV (remV v (H w) (P w) (C (H w))) w) (620 + 6 * w) (nI 0)) n c p lo r rl := s.cg (fun e he => by rw [upd_at, if_neg (by omega), snk_at, if_neg (by omega), rem_o v g2 hc (by omega)])
    have q' := (gone_ri q hw hw1).cg (v' := upd (snkV (remV v (H w) (P w) (C (H w))) w) (620 + 6 * w) (nI 0)) (fun e _ he => eo e he)
    refine evU (fun x => x) R N hvb.symm s q t s' q' (fun h1 eb t1 f1 => ?_) (fun h3 hb v0 T0 e0 T Bg h6 x E Q => ?_)
    · obtain ⟨h2, x2, t2, f2⟩ := drop_dv t1 s.n4 q.c60 hw
      have s2 : SI (snkV v w) n c p lo r rl := s.cg (fun e he => by rw [snk_at, if_neg (by omega)])
      have q2 : RI (snkV v w) C H P := q.set5 hw hw1 (fun e _ _ h3 => by rw [snk_at, if_neg (by omega)]) (Or.inl ⟨by rw [snk_at, if_pos (by omega)], fun c hc => by rw [snk_at, if_pos (by omega)]⟩) (fun c hc => ⟨0, by omega, by rw [snk_at, if_pos (by omega)]⟩)
      have hw2 : snkV v w (620 + 6 * w) = nI 1 := by rw [snk_at, if_neg (by omega)]; exact hw1
      have fo2 : ∃ f, f < C (H w) ∧ snkV v w (35 + 65 * H w + 4) = nI f := by
        rcases q2.fo _ g1 with ⟨z, _⟩ | z
        · omega
        · exact z
      obtain ⟨h3, x3, t3, f3⟩ := t2.rem (t2.ds s2 q2) s.n4 hw g1 rfl hw2 (q2.ord_fnd t2 hw hw2) g2 q.c60 fo2
      refine ⟨h3, t3.cgv s.n4 (fun k hk => by have := q.c60 k hk; (try simp only); split <;> omega) (fun e he => ?_), f2.tr f3, fun h4 x E Q => ?_⟩
      · rw [upd_at, upd_at]
        by_cases e1 : e = 620 + 6 * w
        · rw [if_pos e1, if_pos e1]
        · rw [if_neg e1, if_neg e1, snk_at]
          by_cases e2 : 620 + 6 * w + 1 ≤ e ∧ e < 620 + 6 * w + 6
          · rw [if_pos e2, rem_o _ g2 hc (by omega), snk_at, if_pos e2]
          · rw [if_neg e2]
            by_cases e3 : e < 35
            · rw [rem_o _ g2 hc (by omega), rem_o _ g2 hc (by omega), snk_at, if_neg (by omega)]
            · by_cases e4 : e < 620
              · exact (rem_cgS g1 g2 hc (fun e h1 h2 => by rw [snk_at, if_neg (by omega)]) e (by omega) e4).symm
              · rw [rem_o _ g2 hc (by omega), rem_o _ g2 hc (by omega), snk_at, if_neg (by omega)]
      · simp only [k88_0, k88_1, k88_4, k88_5, k88_8, k88_11, k88_12, k88_13, k88_14, k88_17, k88_18, k88_21, k88_24, k88_25, k88_28, k88_29, k88_32, k88_33, k88_36, k88_37, k88_40, has_dv t q, ht, eb, x2, x3, E, nb_ok, if_true, if_false, ite_true, ite_false, not_true_eq_false, not_false_eq_true, true_or, or_true, false_or, or_false, and_self, ok_n0, ok_ni, ok_nr, ok_nl, va_rf_some, va_rf_none, true_and, and_true, List.length_nil, List.length_cons, Option.toList_some, Option.toList_none, List.cons_append, List.nil_append, rK_uA, rK_uI, rK_uJ, rK_uP, rP_uA, rP_uI, rP_uJ, rJ_uA, rJ_uI, rJ_uP, rI_uJ, rI_uP, rz_uA, rz_uI, rz_uJ, rz_uP, rs_uA, rs_uI, rs_uJ, rs_uP, Nat.reduceAdd, Nat.reduceMul, Nat.reduceSub, Nat.reduceLeDiff, Nat.reduceLT, Nat.reduceEqDiff, Nat.add_zero, Nat.zero_add, Nat.zero_le, nb_t, n1_0, kX, R.pd, dk, t.k.2.2.2.2.2.2.2.2.2.2.1, t.k.2.2.2.2.2.2.2.2.2.2.2.1.1, f1.fk, f1.fp, f2.fk, f2.fp, f3.fk, f3.fp]
    · have ho := s_homeOf T q.ct q.c60 (nI w)
      rw [q.hom_y hw hw1] at ho
      have m1 := s_remove T g1 (q.ct _ g1) hc (nI w) (q.plc_y hw hw1) g2
      have T1 := T.HM (rI hb (X + 115 + 1)) (remV v (H w) (P w) (C (H w)))
      have m2 := s_sinks T1 hw
      have T2 := T.HM (rI hb (X + 115 + 1)) (snkV (remV v (H w) (P w) (C (H w))) w)
      simp only [hm_step] at m2
      have st := s_seat T2 w
      have c1 : 40180 + (620 + 6 * w) < 41160 := by omega
      simp (disch := omega) only [k141_0, k141_1, k141_2, k141_5, k141_8, k141_9, k141_10, k141_11, k141_14, k141_15, k141_16, k141_17, k141_20, k141_21, k141_24, k141_25, k141_26, k141_29, k141_30, k141_33, k141_34, k141_35, k141_38, k141_39, k141_40, k141_41, k141_44, s_isThere T0, there_cg e0, ht, Bg, ho, m1, m2, st, ar_okw, ar_cl, c1, uI_HM, E, nb_ok, if_true, if_false, ite_true, ite_false, not_true_eq_false, not_false_eq_true, true_or, or_true, false_or, or_false, and_self, ok_n0, ok_ni, ok_nr, ok_nl, va_rf_some, va_rf_none, true_and, and_true, List.length_nil, List.length_cons, Option.toList_some, Option.toList_none, List.cons_append, List.nil_append, rK_uA, rK_uI, rK_uJ, rK_uP, rP_uA, rP_uI, rP_uJ, rJ_uA, rJ_uI, rJ_uP, rI_uJ, rI_uP, rz_uA, rz_uI, rz_uJ, rz_uP, rs_uA, rs_uI, rs_uJ, rs_uP, Nat.reduceAdd, Nat.reduceMul, Nat.reduceSub, Nat.reduceLeDiff, Nat.reduceLT, Nat.reduceEqDiff, Nat.add_zero, Nat.zero_add, Nat.zero_le, nb_t, n1_0, T0.1.1, T.1.1, T.1.2.1, T.1.2.2.1, rK_HM, rP_HM]
/-! a layout's numbers -/
theorem lay_ri (q : RI v C H P) {i x : Nat} (hi : i < 9) (hx : x < 3) (y : Int32) (k0 : x = 0 → ∃ κ, κ < 6 ∧ y = nI κ) (k1 : x = 1 → ∃ m, m ≤ 60 ∧ y = nI m) (k2 : x = 2 → ∃ m, m ≤ 1000 ∧ y = nI m) : RI (upd v (35 + 65 * i + x) y) C H (fun w => if H w = i then P w else P w) := by
  refine RI.perm (σ := fun k => k) (τ := fun k => k) q hi (fun e h1 h2 h3 => by rw [upd_at, if_neg (by omega)]) ?_ ?_ ?_ (by rw [upd_at, if_neg (by omega)]) ?_ (PI.id _) (fun k hk => by rw [upd_at, if_neg (by omega)]) (fun k h1 h2 => by rw [upd_at, if_neg (by omega)])
  · rw [upd_at]
    by_cases e : x = 0
    · rw [if_pos (by omega)]; exact k0 e
    · rw [if_neg (by omega)]; exact q.kd i hi
  · rw [upd_at]
    by_cases e : x = 1
    · rw [if_pos (by omega)]; exact k1 e
    · rw [if_neg (by omega)]; exact q.ms i hi
  · rw [upd_at]
    by_cases e : x = 2
    · rw [if_pos (by omega)]; exact k2 e
    · rw [if_neg (by omega)]; exact q.pt i hi
  · rw [upd_at, if_neg (by omega)]; exact q.fo i hi
theorem lay_dv {h1 : pm_H} (t : DV h1 d v n C H) (c60 : ∀ k, k < 9 → C k ≤ 60) (hn : n ≤ 4) {i x : Nat} (hi : i < 9) (hx : x < 3) (y : Int32) : DV (uI h1 (d + 6 + 4 * i) x y) d (upd v (35 + 65 * i + x) y) n C H := by
  refine DV.row t hi hn (FRD.uI _ (by omega) (by omega) _ _) (fun e he => by rw [upd_at, if_neg (by omega)]) (fun c hc => ?_) ?_ ?_ (fun k hk => ?_) (fun _ _ _ => rfl) c60
  · rw [rI_uI, if_pos rfl, upd_at, upd_at]
    by_cases e : c = x
    · rw [if_pos e, if_pos (by omega)]
    · rw [if_neg e, if_neg (by omega)]; exact t.lay i c hi hc
  · rw [rI_uI, if_neg (by omega), upd_at, if_neg (by omega)]; exact t.cnt i hi
  · rw [rI_uI, if_neg (by omega), upd_at, if_neg (by omega)]; exact t.foc i hi
  · rw [rI_uI, if_neg (by omega), upd_at, if_neg (by omega)]; exact t.ord i k hi hk
theorem e_layout (R : XR h X hd un V wt W d B F Sl) (N : MR h (X + 115) hd un V wt W) (a : Int32) : EV X h 97 [some (.ref X), some (.int a)] 151 [some (.ref (X + 115)), some (.int a)] := by
  have l6 : (a ≤ nI 5) = (a < nI 6) := le_lt1 a (by omega)
  have g0 : (a < nI 0) = ¬ nI 0 ≤ a := by rw [Int32.not_le]
  rcases isin_cases a (n := 6) (by omega) with ⟨z, -⟩ | ⟨κ, hκ, rfl, z⟩
  · refine ev_no (nI 0) R N (fun Q => ?_) (fun Q => ?_)
    · simp only [k97_0, k97_1, k97_4, k97_5, k97_6, k97_9, k97_10, k97_11, k97_12, k97_15, k97_16, k97_19, k97_22, k97_23, k97_26, k97_27, k97_30, l6, g0, if_true, if_false, ite_true, ite_false, not_true_eq_false, not_false_eq_true, true_or, or_true, false_or, or_false, and_self, ok_n0, ok_ni, ok_nr, ok_nl, va_rf_some, va_rf_none, true_and, and_true, List.length_nil, List.length_cons, Option.toList_some, Option.toList_none, List.cons_append, List.nil_append, rK_uA, rK_uI, rK_uJ, rK_uP, rP_uA, rP_uI, rP_uJ, rJ_uA, rJ_uI, rJ_uP, rI_uJ, rI_uP, rz_uA, rz_uI, rz_uJ, rz_uP, rs_uA, rs_uI, rs_uJ, rs_uP, Nat.reduceAdd, Nat.reduceMul, Nat.reduceSub, Nat.reduceLeDiff, Nat.reduceLT, Nat.reduceEqDiff, Nat.add_zero, Nat.zero_add, Nat.zero_le]
      by_cases c1 : nI 0 ≤ a
      · have c2 : ¬ a < nI 6 := fun y => by rw [← z]; exact ⟨c1, y⟩
        simp only [c1, c2, if_true, if_false, ite_true, ite_false, not_true_eq_false, not_false_eq_true, true_or, or_true, false_or, or_false, and_self, ok_n0, ok_ni, ok_nr, ok_nl, va_rf_some, va_rf_none, true_and, and_true, List.length_nil, List.length_cons, Option.toList_some, Option.toList_none, List.cons_append, List.nil_append, rK_uA, rK_uI, rK_uJ, rK_uP, rP_uA, rP_uI, rP_uJ, rJ_uA, rJ_uI, rJ_uP, rI_uJ, rI_uP, rz_uA, rz_uI, rz_uJ, rz_uP, rs_uA, rs_uI, rs_uJ, rs_uP, Nat.reduceAdd, Nat.reduceMul, Nat.reduceSub, Nat.reduceLeDiff, Nat.reduceLT, Nat.reduceEqDiff, Nat.add_zero, Nat.zero_add, Nat.zero_le]
      · simp only [c1, if_true, if_false, ite_true, ite_false, not_true_eq_false, not_false_eq_true, true_or, or_true, false_or, or_false, and_self, ok_n0, ok_ni, ok_nr, ok_nl, va_rf_some, va_rf_none, true_and, and_true, List.length_nil, List.length_cons, Option.toList_some, Option.toList_none, List.cons_append, List.nil_append, rK_uA, rK_uI, rK_uJ, rK_uP, rP_uA, rP_uI, rP_uJ, rJ_uA, rJ_uI, rJ_uP, rI_uJ, rI_uP, rz_uA, rz_uI, rz_uJ, rz_uP, rs_uA, rs_uI, rs_uJ, rs_uP, Nat.reduceAdd, Nat.reduceMul, Nat.reduceSub, Nat.reduceLeDiff, Nat.reduceLT, Nat.reduceEqDiff, Nat.add_zero, Nat.zero_add, Nat.zero_le]
    · simp only [k151_0, k151_1, k151_3, k151_6, k151_9, k151_10, k151_11, k151_12, k151_15, k151_16, k151_19, k151_20, k151_21, k151_24, k151_27, k151_28, k151_29, k151_30, k151_33, s_isIn, z, if_true, if_false, ite_true, ite_false, not_true_eq_false, not_false_eq_true, true_or, or_true, false_or, or_false, and_self, ok_n0, ok_ni, ok_nr, ok_nl, va_rf_some, va_rf_none, true_and, and_true, List.length_nil, List.length_cons, Option.toList_some, Option.toList_none, List.cons_append, List.nil_append, rK_uA, rK_uI, rK_uJ, rK_uP, rP_uA, rP_uI, rP_uJ, rJ_uA, rJ_uI, rJ_uP, rI_uJ, rI_uP, rz_uA, rz_uI, rz_uJ, rz_uP, rs_uA, rs_uI, rs_uJ, rs_uP, Nat.reduceAdd, Nat.reduceMul, Nat.reduceSub, Nat.reduceLeDiff, Nat.reduceLT, Nat.reduceEqDiff, Nat.add_zero, Nat.zero_add, Nat.zero_le, decide_false, nb_f]
  · obtain ⟨n, c, p, lo, r, rl, C, H, P, s, q, t⟩ := rel_v R N
    generalize hvb : bV (rI h (X + 115 + 1)) hd = v at s q t
    have pc := (s.pj s.cn).1
    have n4 := s.n4
    have cn := s.cn
    refine evU (fun x => x) R N hvb.symm s q t (s.cg (v' := upd v (35 + 65 * p c + 0) (nI κ)) (fun e he => by rw [upd_at, if_neg (by omega)])) (lay_ri q pc (by omega) (nI κ) (fun _ => ⟨κ, hκ, rfl⟩) (fun e => absurd e (by omega)) (fun e => absurd e (by omega))) (fun h1 eb t1 f1 => ?_) (fun h3 hb v0 T0 e0 T Bg h6 x E Q => ?_)
    · have xl := s_Desk_currentLayout (t1.ds s q) (i := p c) ((t1.ws c cn).trans (s.sh c cn)) pc
      have kl : rK h (d + 6 + 4 * p c) = (1, 4) := (t.k.2.2.2.2.2.2.2.1 _ pc).2.2.2.2.2
      refine ⟨_, lay_dv t1 q.c60 n4 pc (show 0 < 3 by omega) (nI κ), FRD.uI _ (by omega) (by omega) _ _, fun h3 x E Q => ?_⟩
      have g1 : ¬ κ < 0 := by omega
      have g2 : κ ≤ 5 := by omega
      simp (disch := omega) only [k97_0, k97_1, k97_4, k97_5, k97_6, k97_9, k97_10, k97_11, k97_12, k97_15, k97_16, k97_19, k97_22, k97_23, k97_26, k97_27, k97_30, ar_lt, ar_le, g1, g2, eb, xl, E, nb_ok, if_true, if_false, ite_true, ite_false, not_true_eq_false, not_false_eq_true, true_or, or_true, false_or, or_false, and_self, ok_n0, ok_ni, ok_nr, ok_nl, va_rf_some, va_rf_none, true_and, and_true, List.length_nil, List.length_cons, Option.toList_some, Option.toList_none, List.cons_append, List.nil_append, rK_uA, rK_uI, rK_uJ, rK_uP, rP_uA, rP_uI, rP_uJ, rJ_uA, rJ_uI, rJ_uP, rI_uJ, rI_uP, rz_uA, rz_uI, rz_uJ, rz_uP, rs_uA, rs_uI, rs_uJ, rs_uP, Nat.reduceAdd, Nat.reduceMul, Nat.reduceSub, Nat.reduceLeDiff, Nat.reduceLT, Nat.reduceEqDiff, Nat.add_zero, Nat.zero_add, Nat.zero_le, R.xk.1, R.pd, t.k.1, kl, f1.fk, f1.fp]
    · have cs : ∀ Q, pGo 129 0 [some (.ref (X + 115))] [] hb Q = Q (some (.int (nI (p c))), hb) := fun Q => by rw [s_currentSpace T s.v1 (by omega), s.sh c cn]
      have eh := HM_of T.2.2.2
      have c1 : 40180 + (35 + 65 * p c) < 41160 := by omega
      have u1 : uI hb (X + 115 + 1) (40180 + (35 + 65 * p c)) (nI κ) = HM hb (X + 115) (rI hb (X + 115 + 1)) 40180 (upd v (35 + 65 * p c + 0) (nI κ)) := by
        have := uI_HM hb (X + 115) (rI hb (X + 115 + 1)) 40180 v (35 + 65 * p c) (nI κ)
        rw [← eh] at this; exact this
      simp only [Nat.add_zero] at E
      simp (disch := omega) only [k151_0, k151_1, k151_3, k151_6, k151_9, k151_10, k151_11, k151_12, k151_15, k151_16, k151_19, k151_20, k151_21, k151_24, k151_27, k151_28, k151_29, k151_30, k151_33, s_isIn, z, Bg, cs, s_space T, u1, ar_okw, ar_cl, c1, E, nb_ok, if_true, if_false, ite_true, ite_false, not_true_eq_false, not_false_eq_true, true_or, or_true, false_or, or_false, and_self, ok_n0, ok_ni, ok_nr, ok_nl, va_rf_some, va_rf_none, true_and, and_true, List.length_nil, List.length_cons, Option.toList_some, Option.toList_none, List.cons_append, List.nil_append, rK_uA, rK_uI, rK_uJ, rK_uP, rP_uA, rP_uI, rP_uJ, rJ_uA, rJ_uI, rJ_uP, rI_uJ, rI_uP, rz_uA, rz_uI, rz_uJ, rz_uP, rs_uA, rs_uI, rs_uJ, rs_uP, Nat.reduceAdd, Nat.reduceMul, Nat.reduceSub, Nat.reduceLeDiff, Nat.reduceLT, Nat.reduceEqDiff, Nat.add_zero, Nat.zero_add, Nat.zero_le, decide_true, nb_t, n1_0, T0.1.1, T.1.1, T.1.2.1, T.1.2.2.1, rK_HM, rP_HM]
theorem e_shape (R : XR h X hd un V wt W d B F Sl) (N : MR h (X + 115) hd un V wt W) (a b : Int32) : EV X h 98 [some (.ref X), some (.int a), some (.int b)] 152 [some (.ref (X + 115)), some (.int a), some (.int b), none] := by
  have l6 : (nI 60 < a) = ¬ a < nI 61 := by rw [← le_lt1 a (m := 60) (by omega), Int32.not_le]
  have g0 : (a < nI 0) = ¬ nI 0 ≤ a := by rw [Int32.not_le]
  rcases isin_cases a (n := 61) (by omega) with ⟨z, -⟩ | ⟨m, hm, rfl, z⟩
  · refine ev_no (nI 0) R N (fun Q => ?_) (fun Q => ?_)
    · simp only [k98_0, k98_1, k98_4, k98_5, k98_7, k98_10, k98_11, k98_14, k98_17, k98_18, k98_19, k98_20, k98_23, k98_24, k98_27, k98_30, k98_31, k98_34, k98_35, k98_38, k98_41, k98_42, k98_45, k98_46, k98_49, l6, g0, if_true, if_false, ite_true, ite_false, not_true_eq_false, not_false_eq_true, true_or, or_true, false_or, or_false, and_self, ok_n0, ok_ni, ok_nr, ok_nl, va_rf_some, va_rf_none, true_and, and_true, List.length_nil, List.length_cons, Option.toList_some, Option.toList_none, List.cons_append, List.nil_append, rK_uA, rK_uI, rK_uJ, rK_uP, rP_uA, rP_uI, rP_uJ, rJ_uA, rJ_uI, rJ_uP, rI_uJ, rI_uP, rz_uA, rz_uI, rz_uJ, rz_uP, rs_uA, rs_uI, rs_uJ, rs_uP, Nat.reduceAdd, Nat.reduceMul, Nat.reduceSub, Nat.reduceLeDiff, Nat.reduceLT, Nat.reduceEqDiff, Nat.add_zero, Nat.zero_add, Nat.zero_le]
      by_cases c1 : nI 0 ≤ a
      · have c2 : ¬ a < nI 61 := fun y => by rw [← z]; exact ⟨c1, y⟩
        simp only [c1, c2, if_true, if_false, ite_true, ite_false, not_true_eq_false, not_false_eq_true, true_or, or_true, false_or, or_false, and_self, ok_n0, ok_ni, ok_nr, ok_nl, va_rf_some, va_rf_none, true_and, and_true, List.length_nil, List.length_cons, Option.toList_some, Option.toList_none, List.cons_append, List.nil_append, rK_uA, rK_uI, rK_uJ, rK_uP, rP_uA, rP_uI, rP_uJ, rJ_uA, rJ_uI, rJ_uP, rI_uJ, rI_uP, rz_uA, rz_uI, rz_uJ, rz_uP, rs_uA, rs_uI, rs_uJ, rs_uP, Nat.reduceAdd, Nat.reduceMul, Nat.reduceSub, Nat.reduceLeDiff, Nat.reduceLT, Nat.reduceEqDiff, Nat.add_zero, Nat.zero_add, Nat.zero_le]
      · simp only [c1, if_true, if_false, ite_true, ite_false, not_true_eq_false, not_false_eq_true, true_or, or_true, false_or, or_false, and_self, ok_n0, ok_ni, ok_nr, ok_nl, va_rf_some, va_rf_none, true_and, and_true, List.length_nil, List.length_cons, Option.toList_some, Option.toList_none, List.cons_append, List.nil_append, rK_uA, rK_uI, rK_uJ, rK_uP, rP_uA, rP_uI, rP_uJ, rJ_uA, rJ_uI, rJ_uP, rI_uJ, rI_uP, rz_uA, rz_uI, rz_uJ, rz_uP, rs_uA, rs_uI, rs_uJ, rs_uP, Nat.reduceAdd, Nat.reduceMul, Nat.reduceSub, Nat.reduceLeDiff, Nat.reduceLT, Nat.reduceEqDiff, Nat.add_zero, Nat.zero_add, Nat.zero_le]
    · simp only [k152_0, k152_1, k152_3, k152_6, k152_9, k152_10, k152_13, k152_16, k152_17, k152_18, k152_19, k152_22, k152_23, k152_24, k152_27, k152_30, k152_31, k152_32, k152_35, k152_36, k152_37, k152_38, k152_39, k152_40, k152_41, k152_44, k152_45, k152_46, k152_47, k152_48, k152_49, k152_50, k152_53, s_isIn, z, if_true, if_false, ite_true, ite_false, not_true_eq_false, not_false_eq_true, true_or, or_true, false_or, or_false, and_self, ok_n0, ok_ni, ok_nr, ok_nl, va_rf_some, va_rf_none, true_and, and_true, List.length_nil, List.length_cons, Option.toList_some, Option.toList_none, List.cons_append, List.nil_append, rK_uA, rK_uI, rK_uJ, rK_uP, rP_uA, rP_uI, rP_uJ, rJ_uA, rJ_uI, rJ_uP, rI_uJ, rI_uP, rz_uA, rz_uI, rz_uJ, rz_uP, rs_uA, rs_uI, rs_uJ, rs_uP, Nat.reduceAdd, Nat.reduceMul, Nat.reduceSub, Nat.reduceLeDiff, Nat.reduceLT, Nat.reduceEqDiff, Nat.add_zero, Nat.zero_add, Nat.zero_le, decide_false, nb_f]
  · have g1 : ¬ m < 0 := by omega
    have g2 : ¬ 60 < m := by omega
    by_cases b1 : nI 0 ≤ b ∧ b ≤ nI 1000
    · obtain ⟨k, k1, rfl⟩ := share_y (by omega) b1
      obtain ⟨n, c, p, lo, r, rl, C, H, P, s, q, t⟩ := rel_v R N
      generalize hvb : bV (rI h (X + 115 + 1)) hd = v at s q t
      have pc := (s.pj s.cn).1
      have n4 := s.n4
      have cn := s.cn
      have q1 := lay_ri (x := 1) q pc (by omega) (nI m) (fun e => absurd e (by omega)) (fun _ => ⟨m, by omega, rfl⟩) (fun e => absurd e (by omega))
      have q2 := lay_ri (x := 2) q1 pc (by omega) (nI k) (fun e => absurd e (by omega)) (fun e => absurd e (by omega)) (fun _ => ⟨k, k1, rfl⟩)
      have s1 : SI (upd v (35 + 65 * p c + 1) (nI m)) n c p lo r rl := s.cg (fun e he => by rw [upd_at, if_neg (by omega)])
      refine evU (fun x => x) R N hvb.symm s q t (s1.cg (v' := upd (upd v (35 + 65 * p c + 1) (nI m)) (35 + 65 * p c + 2) (nI k)) (fun e he => by rw [upd_at, if_neg (by omega)])) q2 (fun h1 eb t1 f1 => ?_) (fun h3 hb v0 T0 e0 T Bg h6 x E Q => ?_)
      · have xl := s_Desk_currentLayout (t1.ds s q) (i := p c) ((t1.ws c cn).trans (s.sh c cn)) pc
        have t2 := lay_dv t1 q.c60 n4 pc (show 1 < 3 by omega) (nI m)
        have xl2 := s_Desk_currentLayout (t2.ds s1 q1) (i := p c) ((t2.ws c cn).trans (s1.sh c cn)) pc
        have kl : rK h (d + 6 + 4 * p c) = (1, 4) := (t.k.2.2.2.2.2.2.2.1 _ pc).2.2.2.2.2
        refine ⟨_, lay_dv t2 q.c60 n4 pc (show 2 < 3 by omega) (nI k), (FRD.uI _ (by omega) (by omega) _ _).tr (FRD.uI _ (by omega) (by omega) _ _), fun h3 x E Q => ?_⟩
        simp (disch := omega) only [k98_0, k98_1, k98_4, k98_5, k98_7, k98_10, k98_11, k98_14, k98_17, k98_18, k98_19, k98_20, k98_23, k98_24, k98_27, k98_30, k98_31, k98_34, k98_35, k98_38, k98_41, k98_42, k98_45, k98_46, k98_49, ar_lt, g1, g2, s_isShare, b1, decide_true, nb_t, n1_0, eb, xl, xl2, E, nb_ok, if_true, if_false, ite_true, ite_false, not_true_eq_false, not_false_eq_true, true_or, or_true, false_or, or_false, and_self, ok_n0, ok_ni, ok_nr, ok_nl, va_rf_some, va_rf_none, true_and, and_true, List.length_nil, List.length_cons, Option.toList_some, Option.toList_none, List.cons_append, List.nil_append, rK_uA, rK_uI, rK_uJ, rK_uP, rP_uA, rP_uI, rP_uJ, rJ_uA, rJ_uI, rJ_uP, rI_uJ, rI_uP, rz_uA, rz_uI, rz_uJ, rz_uP, rs_uA, rs_uI, rs_uJ, rs_uP, Nat.reduceAdd, Nat.reduceMul, Nat.reduceSub, Nat.reduceLeDiff, Nat.reduceLT, Nat.reduceEqDiff, Nat.add_zero, Nat.zero_add, Nat.zero_le, R.xk.1, R.pd, t.k.1, kl, f1.fk, f1.fp]
      · have cs : ∀ Q, pGo 129 0 [some (.ref (X + 115))] [] hb Q = Q (some (.int (nI (p c))), hb) := fun Q => by rw [s_currentSpace T s.v1 (by omega), s.sh c cn]
        have eh := HM_of T.2.2.2
        have c1 : 40180 + (35 + 65 * p c + 1) < 41160 := by omega
        have c2 : 40180 + (35 + 65 * p c + 2) < 41160 := by omega
        have u1 : uI hb (X + 115 + 1) (40180 + (35 + 65 * p c + 1)) (nI m) = HM hb (X + 115) (rI hb (X + 115 + 1)) 40180 (upd v (35 + 65 * p c + 1) (nI m)) := by
          have := uI_HM hb (X + 115) (rI hb (X + 115 + 1)) 40180 v (35 + 65 * p c + 1) (nI m)
          rw [← eh] at this; exact this
        simp (disch := omega) only [k152_0, k152_1, k152_3, k152_6, k152_9, k152_10, k152_13, k152_16, k152_17, k152_18, k152_19, k152_22, k152_23, k152_24, k152_27, k152_30, k152_31, k152_32, k152_35, k152_36, k152_37, k152_38, k152_39, k152_40, k152_41, k152_44, k152_45, k152_46, k152_47, k152_48, k152_49, k152_50, k152_53, s_isIn, z, s_isPart, b1, Bg, cs, s_space T, u1, uI_HM, ar_add, Nat.add_assoc 40180, ar_okw, ar_cl, c1, c2, E, nb_ok, if_true, if_false, ite_true, ite_false, not_true_eq_false, not_false_eq_true, true_or, or_true, false_or, or_false, and_self, ok_n0, ok_ni, ok_nr, ok_nl, va_rf_some, va_rf_none, true_and, and_true, List.length_nil, List.length_cons, Option.toList_some, Option.toList_none, List.cons_append, List.nil_append, rK_uA, rK_uI, rK_uJ, rK_uP, rP_uA, rP_uI, rP_uJ, rJ_uA, rJ_uI, rJ_uP, rI_uJ, rI_uP, rz_uA, rz_uI, rz_uJ, rz_uP, rs_uA, rs_uI, rs_uJ, rs_uP, Nat.reduceAdd, Nat.reduceMul, Nat.reduceSub, Nat.reduceLeDiff, Nat.reduceLT, Nat.reduceEqDiff, Nat.add_zero, Nat.zero_add, Nat.zero_le, decide_true, nb_t, n1_0, T0.1.1, T.1.1, T.1.2.1, T.1.2.2.1, rK_HM, rP_HM]
    · refine ev_no (nI 0) R N (fun Q => ?_) (fun Q => ?_)
      · simp (disch := omega) only [k98_0, k98_1, k98_4, k98_5, k98_7, k98_10, k98_11, k98_14, k98_17, k98_18, k98_19, k98_20, k98_23, k98_24, k98_27, k98_30, k98_31, k98_34, k98_35, k98_38, k98_41, k98_42, k98_45, k98_46, k98_49, ar_lt, g1, g2, s_isShare, b1, decide_false, if_true, if_false, ite_true, ite_false, not_true_eq_false, not_false_eq_true, true_or, or_true, false_or, or_false, and_self, ok_n0, ok_ni, ok_nr, ok_nl, va_rf_some, va_rf_none, true_and, and_true, List.length_nil, List.length_cons, Option.toList_some, Option.toList_none, List.cons_append, List.nil_append, rK_uA, rK_uI, rK_uJ, rK_uP, rP_uA, rP_uI, rP_uJ, rJ_uA, rJ_uI, rJ_uP, rI_uJ, rI_uP, rz_uA, rz_uI, rz_uJ, rz_uP, rs_uA, rs_uI, rs_uJ, rs_uP, Nat.reduceAdd, Nat.reduceMul, Nat.reduceSub, Nat.reduceLeDiff, Nat.reduceLT, Nat.reduceEqDiff, Nat.add_zero, Nat.zero_add, Nat.zero_le, nb_f]
      · simp only [k152_0, k152_1, k152_3, k152_6, k152_9, k152_10, k152_13, k152_16, k152_17, k152_18, k152_19, k152_22, k152_23, k152_24, k152_27, k152_30, k152_31, k152_32, k152_35, k152_36, k152_37, k152_38, k152_39, k152_40, k152_41, k152_44, k152_45, k152_46, k152_47, k152_48, k152_49, k152_50, k152_53, s_isIn, z, s_isPart, b1, if_true, if_false, ite_true, ite_false, not_true_eq_false, not_false_eq_true, true_or, or_true, false_or, or_false, and_self, ok_n0, ok_ni, ok_nr, ok_nl, va_rf_some, va_rf_none, true_and, and_true, List.length_nil, List.length_cons, Option.toList_some, Option.toList_none, List.cons_append, List.nil_append, rK_uA, rK_uI, rK_uJ, rK_uP, rP_uA, rP_uI, rP_uJ, rJ_uA, rJ_uI, rJ_uP, rI_uJ, rI_uP, rz_uA, rz_uI, rz_uJ, rz_uP, rs_uA, rs_uI, rs_uJ, rs_uP, Nat.reduceAdd, Nat.reduceMul, Nat.reduceSub, Nat.reduceLeDiff, Nat.reduceLT, Nat.reduceEqDiff, Nat.add_zero, Nat.zero_add, Nat.zero_le, decide_true, nb_t, n1_0, decide_false, nb_f]
/-! open -/
theorem first_no (Pr : Nat → Prop) (m : Nat) : ∃ w, w ≤ m ∧ (∀ j, j < w → Pr j) ∧ (w = m ∨ ¬ Pr w) := by
  induction m with
  | zero => exact ⟨0, Nat.le_refl _, fun j hj => absurd hj (by omega), Or.inl rfl⟩
  | succ m ih =>
    obtain ⟨w, h1, h2, h3⟩ := ih
    rcases h3 with h3 | h3
    · subst h3
      by_cases e : Pr w
      · exact ⟨w + 1, by omega, fun j hj => by
          by_cases z : j = w
          · rw [z]; exact e
          · exact h2 j (by omega), Or.inl rfl⟩
      · exact ⟨w, by omega, h2, Or.inr e⟩
    · exact ⟨w, by omega, h2, Or.inr h3⟩
theorem m_open_loop {M s : Nat} (T : MV h M s v) {w : Nat} (hw : w ≤ 60) (hj : ∀ j, j < w → v (620 + 6 * j) = nI 1) (hn : w = 60 ∨ ¬ v (620 + 6 * w) = nI 1) (Q : Option Value × pm_H → Prop) : ∀ m j, j + m = w → pGo 139 2 [some (.ref M), some (.int (nI j)), none] [] h Q = pGo 139 28 [some (.ref M), some (.int (nI w)), none] [] h Q := by
  obtain ⟨t1, t2, t3, t4⟩ := id T
  intro m
  induction m with
  | zero =>
    intro j e
    have e : j = w := by omega
    subst e
    rw [k139_2]
    by_cases c : j = 60
    · subst c
      simp (disch := omega) only [k139_3, k139_5, if_true, if_false, ite_true, ite_false, not_true_eq_false, not_false_eq_true, true_or, or_true, false_or, or_false, and_self, ok_n0, ok_ni, ok_nr, ok_nl, va_rf_some, va_rf_none, true_and, and_true, List.length_nil, List.length_cons, Option.toList_some, Option.toList_none, List.cons_append, List.nil_append, rK_uA, rK_uI, rK_uJ, rK_uP, rP_uA, rP_uI, rP_uJ, rJ_uA, rJ_uI, rJ_uP, rI_uJ, rI_uP, rz_uA, rz_uI, rz_uJ, rz_uP, rs_uA, rs_uI, rs_uJ, rs_uP, Nat.reduceAdd, Nat.reduceMul, Nat.reduceSub, Nat.reduceLeDiff, Nat.reduceLT, Nat.reduceEqDiff, Nat.add_zero, Nat.zero_add, Nat.zero_le, ar_le, Nat.le_refl]
    · have c1 : ¬ 60 ≤ j := by omega
      have c2 : s + (620 + 6 * j) < 41160 := by omega
      have hn : ¬ v (620 + 6 * j) = nI 1 := by rcases hn with z | z; exact absurd z c; exact z
      simp (disch := omega) only [k139_0, k139_1, k139_3, k139_5, k139_8, k139_9, k139_12, k139_13, k139_14, k139_17, k139_18, k139_19, k139_22, k139_25, k139_29, k139_31, k139_34, k139_35, k139_36, k139_37, k139_40, k139_41, k139_44, k139_45, k139_46, k139_49, k139_50, k139_51, k139_52, k139_53, k139_56, k139_57, k139_60, k139_61, k139_64, k139_65, k139_66, s_seat T, if_true, if_false, ite_true, ite_false, not_true_eq_false, not_false_eq_true, true_or, or_true, false_or, or_false, and_self, ok_n0, ok_ni, ok_nr, ok_nl, va_rf_some, va_rf_none, true_and, and_true, List.length_nil, List.length_cons, Option.toList_some, Option.toList_none, List.cons_append, List.nil_append, rK_uA, rK_uI, rK_uJ, rK_uP, rP_uA, rP_uI, rP_uJ, rJ_uA, rJ_uI, rJ_uP, rI_uJ, rI_uP, rz_uA, rz_uI, rz_uJ, rz_uP, rs_uA, rs_uI, rs_uJ, rs_uP, Nat.reduceAdd, Nat.reduceMul, Nat.reduceSub, Nat.reduceLeDiff, Nat.reduceLT, Nat.reduceEqDiff, Nat.add_zero, Nat.zero_add, Nat.zero_le, ar_le, ar_oki, ar_cl, t1.1, t1.2.1, t1.2.2.1, t4, c1, c2, hn]
  | succ m ih =>
    intro j e
    have c1 : ¬ 60 ≤ j := by omega
    have c2 : s + (620 + 6 * j) < 41160 := by omega
    rw [k139_2]
    simp (disch := omega) only [k139_0, k139_1, k139_3, k139_5, k139_8, k139_9, k139_12, k139_13, k139_14, k139_17, k139_18, k139_19, k139_22, k139_25, k139_29, k139_31, k139_34, k139_35, k139_36, k139_37, k139_40, k139_41, k139_44, k139_45, k139_46, k139_49, k139_50, k139_51, k139_52, k139_53, k139_56, k139_57, k139_60, k139_61, k139_64, k139_65, k139_66, s_seat T, if_true, if_false, ite_true, ite_false, not_true_eq_false, not_false_eq_true, true_or, or_true, false_or, or_false, and_self, ok_n0, ok_ni, ok_nr, ok_nl, va_rf_some, va_rf_none, true_and, and_true, List.length_nil, List.length_cons, Option.toList_some, Option.toList_none, List.cons_append, List.nil_append, rK_uA, rK_uI, rK_uJ, rK_uP, rP_uA, rP_uI, rP_uJ, rJ_uA, rJ_uI, rJ_uP, rI_uJ, rI_uP, rz_uA, rz_uI, rz_uJ, rz_uP, rs_uA, rs_uI, rs_uJ, rs_uP, Nat.reduceAdd, Nat.reduceMul, Nat.reduceSub, Nat.reduceLeDiff, Nat.reduceLT, Nat.reduceEqDiff, Nat.add_zero, Nat.zero_add, Nat.zero_le, ar_le, ar_add, ar_oki, ar_cl, t1.1, t1.2.1, t1.2.2.1, t4, c1, c2, hj j (by omega)]
    exact ih (j + 1) (by omega)
theorem e_open (R : XR h X hd un V wt W d B F Sl) (N : MR h (X + 115) hd un V wt W) : EV X h 87 [some (.ref X), none] 139 [some (.ref (X + 115)), none, none] := by
  obtain ⟨n, c, p, lo, r, rl, C, H, P, s, q, t⟩ := rel_v R N
  obtain ⟨v0, T0, e0⟩ := now_mv N
  generalize hvb : bV (rI h (X + 115 + 1)) hd = v at s q t e0
  have kX := R.xk.1
  have dk := t.k.1
  obtain ⟨w, w60, wj, wn⟩ := first_no (fun j => v (620 + 6 * j) = nI 1) 60
  have xfr := s_Desk_freeWindow t.k
  have fj : ∀ j, j < w → ¬ rI h (d + 52) j = -1 := fun j hj => by
    have := (q.hp j (by omega) (wj j hj)).1
    rw [t.hom j (by omega), if_pos (wj j hj), ar_nm (by omega)]; exact id
  by_cases c60 : w = 60
  · subst c60
    rw [lfind_no 60 0 (fun j _ hj => fj j (by omega))] at xfr
    refine ev_no (-1) R N (fun Q => ?_) (fun Q => ?_)
    · simp only [k87_0, k87_1, k87_4, k87_7, k87_8, k87_9, k87_10, k87_13, k87_14, k87_15, k87_16, k87_19, k87_20, k87_23, k87_24, k87_25, k87_28, k87_31, k87_34, k87_37, k87_38, k87_41, k87_42, k87_43, xfr, if_true, if_false, ite_true, ite_false, not_true_eq_false, not_false_eq_true, true_or, or_true, false_or, or_false, and_self, ok_n0, ok_ni, ok_nr, ok_nl, va_rf_some, va_rf_none, true_and, and_true, List.length_nil, List.length_cons, Option.toList_some, Option.toList_none, List.cons_append, List.nil_append, rK_uA, rK_uI, rK_uJ, rK_uP, rP_uA, rP_uI, rP_uJ, rJ_uA, rJ_uI, rJ_uP, rI_uJ, rI_uP, rz_uA, rz_uI, rz_uJ, rz_uP, rs_uA, rs_uI, rs_uJ, rs_uP, Nat.reduceAdd, Nat.reduceMul, Nat.reduceSub, Nat.reduceLeDiff, Nat.reduceLT, Nat.reduceEqDiff, Nat.add_zero, Nat.zero_add, Nat.zero_le, kX, R.pd, dk]
    · have l := m_open_loop T0 (w := 60) (by omega) (fun j hj => by rw [e0 _ (by omega)]; exact wj j hj) (Or.inl rfl) Q 60 0 (by omega)
      rw [k139_0]
      simp only [k139_1, if_true, if_false, ite_true, ite_false, not_true_eq_false, not_false_eq_true, true_or, or_true, false_or, or_false, and_self, ok_n0, ok_ni, ok_nr, ok_nl, va_rf_some, va_rf_none, true_and, and_true, List.length_nil, List.length_cons, Option.toList_some, Option.toList_none, List.cons_append, List.nil_append, rK_uA, rK_uI, rK_uJ, rK_uP, rP_uA, rP_uI, rP_uJ, rJ_uA, rJ_uI, rJ_uP, rI_uJ, rI_uP, rz_uA, rz_uI, rz_uJ, rz_uP, rs_uA, rs_uI, rs_uJ, rs_uP, Nat.reduceAdd, Nat.reduceMul, Nat.reduceSub, Nat.reduceLeDiff, Nat.reduceLT, Nat.reduceEqDiff, Nat.add_zero, Nat.zero_add, Nat.zero_le]
      rw [l, k139_28]
      simp only [k139_0, k139_1, k139_3, k139_5, k139_8, k139_9, k139_12, k139_13, k139_14, k139_17, k139_18, k139_19, k139_22, k139_25, k139_29, k139_31, k139_34, k139_35, k139_36, k139_37, k139_40, k139_41, k139_44, k139_45, k139_46, k139_49, k139_50, k139_51, k139_52, k139_53, k139_56, k139_57, k139_60, k139_61, k139_64, k139_65, k139_66, if_true, if_false, ite_true, ite_false, not_true_eq_false, not_false_eq_true, true_or, or_true, false_or, or_false, and_self, ok_n0, ok_ni, ok_nr, ok_nl, va_rf_some, va_rf_none, true_and, and_true, List.length_nil, List.length_cons, Option.toList_some, Option.toList_none, List.cons_append, List.nil_append, rK_uA, rK_uI, rK_uJ, rK_uP, rP_uA, rP_uI, rP_uJ, rJ_uA, rJ_uI, rJ_uP, rI_uJ, rI_uP, rz_uA, rz_uI, rz_uJ, rz_uP, rs_uA, rs_uI, rs_uJ, rs_uP, Nat.reduceAdd, Nat.reduceMul, Nat.reduceSub, Nat.reduceLeDiff, Nat.reduceLT, Nat.reduceEqDiff, Nat.add_zero, Nat.zero_add, Nat.zero_le]
  · have hw : w < 60 := by omega
    have ht : ¬ v (620 + 6 * w) = nI 1 := by rcases wn with z | z; exact absurd z c60; exact z
    rw [lfind_at 60 0 (i := w) (by omega) (by omega) (by rw [t.hom w hw, if_neg ht]) (fun j _ hj => fj j hj)] at xfr
    have pc := (s.pj s.cn).1
    have n4 := s.n4
    have cn := s.cn
    obtain ⟨pp, pp1, pp2⟩ := q.insp pc
    have room := q.room hw ht pc
    have eo : upd (insV v (p c) pp (C (p c)) (nI w)) (620 + 6 * w) (nI 1) = insV (upd v (620 + 6 * w) (nI 1)) (p c) pp (C (p c)) (nI w) := by
      funext e
      rw [upd_at]
      by_cases e1 : e = 620 + 6 * w
      · rw [if_pos e1, ins_o _ _ pp1 room (by omega), upd_at, if_pos e1]
      · rw [if_neg e1]
        simp only [insV, upd_at, va_cpy]
        by_cases x1 : e = 35 + 65 * p c + 4
        · rw [if_pos x1, if_pos x1]
        · rw [if_neg x1, if_neg x1]
          by_cases x2 : e = 35 + 65 * p c + 3
          · rw [if_pos x2, if_pos x2]
          · rw [if_neg x2, if_neg x2]
            by_cases x3 : e = 35 + 65 * p c + 5 + pp
            · rw [if_pos x3, if_pos x3]
            · rw [if_neg x3, if_neg x3]
              by_cases x4 : 35 + 65 * p c + 5 + pp + 1 ≤ e ∧ e < 35 + 65 * p c + 5 + pp + 1 + (C (p c) - pp)
              · rw [if_pos x4, if_pos x4, if_neg (by omega)]
              · rw [if_neg x4, if_neg x4, if_neg e1]
    refine evU (fun _ => nI w) R N hvb.symm s q t (s.cg (v' := upd (insV v (p c) pp (C (p c)) (nI w)) (620 + 6 * w) (nI 1)) (fun e he => by rw [upd_at, if_neg (by omega), ins_o v _ pp1 room (by omega)])) (ins_ri q hw ht pc pp1) (fun h1 eb t1 f1 => ?_) (fun h3 hb v0 T0 e0 T Bg h6 x E Q => ?_)
    · obtain ⟨h2, x2, t2, f2⟩ := t1.ins (t1.ds s q) n4 hw pc pp2 pp1 room q.c60
      refine ⟨h2, t2, f2, fun h3 x E Q => ?_⟩
      have cw := s_Screens_currentWorkspace (t1.dvs.sc s)
      rw [t1.ws c cn, s.sh c cn] at cw
      simp (disch := omega) only [k87_0, k87_1, k87_4, k87_7, k87_8, k87_9, k87_10, k87_13, k87_14, k87_15, k87_16, k87_19, k87_20, k87_23, k87_24, k87_25, k87_28, k87_31, k87_34, k87_37, k87_38, k87_41, k87_42, k87_43, xfr, ar_nm, eb, cw, x2, E, if_true, if_false, ite_true, ite_false, not_true_eq_false, not_false_eq_true, true_or, or_true, false_or, or_false, and_self, ok_n0, ok_ni, ok_nr, ok_nl, va_rf_some, va_rf_none, true_and, and_true, List.length_nil, List.length_cons, Option.toList_some, Option.toList_none, List.cons_append, List.nil_append, rK_uA, rK_uI, rK_uJ, rK_uP, rP_uA, rP_uI, rP_uJ, rJ_uA, rJ_uI, rJ_uP, rI_uJ, rI_uP, rz_uA, rz_uI, rz_uJ, rz_uP, rs_uA, rs_uI, rs_uJ, rs_uP, Nat.reduceAdd, Nat.reduceMul, Nat.reduceSub, Nat.reduceLeDiff, Nat.reduceLT, Nat.reduceEqDiff, Nat.add_zero, Nat.zero_add, Nat.zero_le, kX, R.pd, dk, t.k.2.2.2.2.2.2.2.2.1, t.k.2.2.2.2.2.2.2.2.2.1.1, f1.fk, f1.fp, f2.fk, f2.fp]
    · have l := m_open_loop T0 (w := w) w60 (fun j hj => by rw [e0 _ (by omega)]; exact wj j hj) (Or.inr (by rw [e0 _ (by omega)]; exact ht)) Q w 0 (by omega)
      have s1 : SI (upd v (620 + 6 * w) (nI 1)) n c p lo r rl := s.cg (fun e he => by rw [upd_at, if_neg (by omega)])
      have eh := HM_of T.2.2.2
      have u1 : uI hb (X + 115 + 1) (40180 + (620 + 6 * w)) (nI 1) = HM hb (X + 115) (rI hb (X + 115 + 1)) 40180 (upd v (620 + 6 * w) (nI 1)) := by
        have := uI_HM hb (X + 115) (rI hb (X + 115 + 1)) 40180 v (620 + 6 * w) (nI 1)
        rw [← eh] at this; exact this
      have T1 := T.HM (rI hb (X + 115 + 1)) (upd v (620 + 6 * w) (nI 1))
      have cs : ∀ Q, pGo 129 0 [some (.ref (X + 115))] [] (HM hb (X + 115) (rI hb (X + 115 + 1)) 40180 (upd v (620 + 6 * w) (nI 1))) Q = Q (some (.int (nI (p c))), HM hb (X + 115) (rI hb (X + 115 + 1)) 40180 (upd v (620 + 6 * w) (nI 1))) := fun Q => by rw [s_currentSpace T1 s1.v1 (by omega), s1.sh c cn]
      have m1 := s_insert T1 pc (c := C (p c)) (p := pp) (by rw [upd_at, if_neg (by omega)]; exact q.ct _ pc) room (by rw [upd_at, if_neg (by omega)]; exact pp2) pp1 (nI w)
      simp only [hm_step] at m1
      rw [← eo] at m1
      have c1 : 40180 + (620 + 6 * w) < 41160 := by omega
      rw [k139_0]
      simp only [k139_1, if_true, if_false, ite_true, ite_false, not_true_eq_false, not_false_eq_true, true_or, or_true, false_or, or_false, and_self, ok_n0, ok_ni, ok_nr, ok_nl, va_rf_some, va_rf_none, true_and, and_true, List.length_nil, List.length_cons, Option.toList_some, Option.toList_none, List.cons_append, List.nil_append, rK_uA, rK_uI, rK_uJ, rK_uP, rP_uA, rP_uI, rP_uJ, rJ_uA, rJ_uI, rJ_uP, rI_uJ, rI_uP, rz_uA, rz_uI, rz_uJ, rz_uP, rs_uA, rs_uI, rs_uJ, rs_uP, Nat.reduceAdd, Nat.reduceMul, Nat.reduceSub, Nat.reduceLeDiff, Nat.reduceLT, Nat.reduceEqDiff, Nat.add_zero, Nat.zero_add, Nat.zero_le]
      rw [l, k139_28]
      simp (disch := omega) only [k139_0, k139_1, k139_3, k139_5, k139_8, k139_9, k139_12, k139_13, k139_14, k139_17, k139_18, k139_19, k139_22, k139_25, k139_29, k139_31, k139_34, k139_35, k139_36, k139_37, k139_40, k139_41, k139_44, k139_45, k139_46, k139_49, k139_50, k139_51, k139_52, k139_53, k139_56, k139_57, k139_60, k139_61, k139_64, k139_65, k139_66, s_seat T, u1, cs, m1, ar_eq, c60, Bg, ar_okw, ar_cl, c1, E, if_true, if_false, ite_true, ite_false, not_true_eq_false, not_false_eq_true, true_or, or_true, false_or, or_false, and_self, ok_n0, ok_ni, ok_nr, ok_nl, va_rf_some, va_rf_none, true_and, and_true, List.length_nil, List.length_cons, Option.toList_some, Option.toList_none, List.cons_append, List.nil_append, rK_uA, rK_uI, rK_uJ, rK_uP, rP_uA, rP_uI, rP_uJ, rJ_uA, rJ_uI, rJ_uP, rI_uJ, rI_uP, rz_uA, rz_uI, rz_uJ, rz_uP, rs_uA, rs_uI, rs_uJ, rs_uP, Nat.reduceAdd, Nat.reduceMul, Nat.reduceSub, Nat.reduceLeDiff, Nat.reduceLT, Nat.reduceEqDiff, Nat.add_zero, Nat.zero_add, Nat.zero_le, T0.1.1, T.1.1, T.1.2.1, T.1.2.2.1, rK_HM, rP_HM]
end EVS3
