/-! A WINDOW TURNED TO; A ROW REARRANGED -/
section TURN
variable {v : Nat → Int32} {n c : Nat} {p lo r rl C H P : Nat → Nat}
theorem foc_ri (q : RI v C H P) {i f : Nat} (hi : i < 9) (hf : f < C i) : RI (upd v (35 + 65 * i + 4) (nI f)) C H (fun w => if H w = i then P w else P w) := by
  have hc := q.c60 i hi
  refine RI.perm (σ := fun k => k) (τ := fun k => k) q hi (fun e h1 h2 h3 => by rw [upd_at, if_neg (by omega)]) ?_ ?_ ?_ ?_ (Or.inr ⟨f, hf, by rw [upd_at, if_pos rfl]⟩) (PI.id _) (fun k hk => by rw [upd_at, if_neg (by omega)]) (fun k h1 h2 => by rw [upd_at, if_neg (by omega)])
  · rw [upd_at, if_neg (by omega)]; exact q.kd i hi
  · rw [upd_at, if_neg (by omega)]; exact q.ms i hi
  · rw [upd_at, if_neg (by omega)]; exact q.pt i hi
  · rw [upd_at, if_neg (by omega)]
theorem turn_all (s : SI v n c p lo r rl) (q : RI v C H P) {w : Nat} (hw : w < 60) (ht : v (620 + 6 * w) = nI 1) : ∃ v' c' p' lo' r' rl' P', SI v' n c' p' lo' r' rl' ∧ RI v' C H P' ∧ (∀ h M s, MV h M s v → ∀ Q, pGo 138 0 [some (.ref M), some (.int (nI w)), none] [] h Q = Q (none, HM h M (rI h (M + 1)) s v')) ∧ ∀ h d, DV h d v n C H → ∃ h', (∀ Q, pGo 21 0 [some (.ref d), some (.int (nI w))] [] h Q = Q (none, h')) ∧ DV h' d v' n C H ∧ FRD d (d + 53) h h' := by
  obtain ⟨g1, g2, g3⟩ := q.hp w hw ht
  have hc := q.c60 _ g1
  have n4 := s.n4
  have cn := s.cn
  have pc9 := (s.pj cn).1
  obtain ⟨v1, c1, p1, lo1, r1, rl1, s1, V1, V1e⟩ := view_all s g1 false
  have q1 : RI v1 C H P := q.cg (fun e h1 _ => V1.1.1 e h1)
  have ht1 : v1 (620 + 6 * w) = nI 1 := by rw [V1.1.1 _ (by omega)]; exact ht
  refine ⟨upd v1 (35 + 65 * H w + 4) (nI (P w)), c1, p1, lo1, r1, rl1, _, s1.cg (fun e he => by rw [upd_at, if_neg (by omega)]), foc_ri q1 g1 g2, fun h M so t Q => ?_, fun h d t => ?_⟩
  · have cs := s_currentSpace t s.v1 (by omega)
    rw [s.sh c cn] at cs
    have ho := s_homeOf t q.ct q.c60 (nI w)
    rw [q.hom_y hw ht] at ho
    have m1 := V1.2.1 h M so t
    simp only [nb_f] at m1
    have t1 := t.HM (rI h (M + 1)) v1
    have m2 := s_placeIn t1 g1 (q1.ct _ g1) hc (nI w)
    rw [q1.plc_y hw ht1] at m2
    have fo := s_focusOf t g1 (q.foh g1)
    have so2 := t.2.2.1
    have cc : so + (35 + 65 * H w + 4) < 41160 := by omega
    have tail : pGo 138 24 [some (.ref M), some (.int (nI w)), some (.int (nI (H w)))] [] h Q = Q (none, HM h M (rI h (M + 1)) so (upd v1 (35 + 65 * H w + 4) (nI (P w)))) := by
      simp (disch := omega) only [k138_0, k138_1, k138_2, k138_5, k138_6, k138_7, k138_8, k138_11, k138_14, k138_15, k138_16, k138_19, k138_20, k138_23, k138_24, k138_25, k138_26, k138_27, k138_30, k138_31, k138_34, k138_35, k138_36, k138_39, k138_40, k138_41, k138_42, k138_43, k138_44, k138_47, k138_48, m1, m2, s_space t1, if_true, if_false, ite_true, ite_false, not_true_eq_false, not_false_eq_true, true_or, or_true, false_or, or_false, and_self, ok_n0, ok_ni, ok_nr, ok_nl, va_rf_some, va_rf_none, true_and, and_true, List.length_nil, List.length_cons, Option.toList_some, Option.toList_none, List.cons_append, List.nil_append, rK_uA, rK_uI, rK_uJ, rK_uP, rP_uA, rP_uI, rP_uJ, rJ_uA, rJ_uI, rJ_uP, rI_uJ, rI_uP, rz_uA, rz_uI, rz_uJ, rz_uP, rs_uA, rs_uI, rs_uJ, rs_uP, Nat.reduceAdd, Nat.reduceMul, Nat.reduceSub, Nat.reduceLeDiff, Nat.reduceLT, Nat.reduceEqDiff, Nat.add_zero, Nat.zero_add, Nat.zero_le, t.1.1, t.1.2.1, t.1.2.2.1, rK_HM, rP_HM, ar_add, Nat.add_assoc so, ar_okw, ar_cl, cc, uI_HM]
    simp (disch := omega) only [k138_0, k138_1, k138_2, k138_5, k138_6, k138_7, k138_8, k138_11, k138_14, k138_15, k138_16, k138_19, k138_20, k138_23, k138_25, k138_26, k138_27, k138_30, k138_31, k138_34, k138_35, k138_36, k138_39, k138_40, k138_41, k138_42, k138_43, k138_44, k138_47, k138_48, ho, cs, fo, if_true, if_false, ite_true, ite_false, not_true_eq_false, not_false_eq_true, true_or, or_true, false_or, or_false, and_self, ok_n0, ok_ni, ok_nr, ok_nl, va_rf_some, va_rf_none, true_and, and_true, List.length_nil, List.length_cons, Option.toList_some, Option.toList_none, List.cons_append, List.nil_append, rK_uA, rK_uI, rK_uJ, rK_uP, rP_uA, rP_uI, rP_uJ, rJ_uA, rJ_uI, rJ_uP, rI_uJ, rI_uP, rz_uA, rz_uI, rz_uJ, rz_uP, rs_uA, rs_uI, rs_uJ, rs_uP, Nat.reduceAdd, Nat.reduceMul, Nat.reduceSub, Nat.reduceLeDiff, Nat.reduceLT, Nat.reduceEqDiff, Nat.add_zero, Nat.zero_add, Nat.zero_le, t.1.1, ar_eq, tail]
    by_cases e1 : H w = p c
    · by_cases e2 : focV v (H w) = nI w
      · simp only [e1, if_true, if_false, ite_true, ite_false, not_true_eq_false, not_false_eq_true, true_or, or_true, false_or, or_false, and_self, ok_n0, ok_ni, ok_nr, ok_nl, va_rf_some, va_rf_none, true_and, and_true, List.length_nil, List.length_cons, Option.toList_some, Option.toList_none, List.cons_append, List.nil_append, rK_uA, rK_uI, rK_uJ, rK_uP, rP_uA, rP_uI, rP_uJ, rJ_uA, rJ_uI, rJ_uP, rI_uJ, rI_uP, rz_uA, rz_uI, rz_uJ, rz_uP, rs_uA, rs_uI, rs_uJ, rs_uP, Nat.reduceAdd, Nat.reduceMul, Nat.reduceSub, Nat.reduceLeDiff, Nat.reduceLT, Nat.reduceEqDiff, Nat.add_zero, Nat.zero_add, Nat.zero_le]
        rw [e1] at e2
        simp only [e2, if_true, if_false, ite_true, ite_false, not_true_eq_false, not_false_eq_true, true_or, or_true, false_or, or_false, and_self, ok_n0, ok_ni, ok_nr, ok_nl, va_rf_some, va_rf_none, true_and, and_true, List.length_nil, List.length_cons, Option.toList_some, Option.toList_none, List.cons_append, List.nil_append, rK_uA, rK_uI, rK_uJ, rK_uP, rP_uA, rP_uI, rP_uJ, rJ_uA, rJ_uI, rJ_uP, rI_uJ, rI_uP, rz_uA, rz_uI, rz_uJ, rz_uP, rs_uA, rs_uI, rs_uJ, rs_uP, Nat.reduceAdd, Nat.reduceMul, Nat.reduceSub, Nat.reduceLeDiff, Nat.reduceLT, Nat.reduceEqDiff, Nat.add_zero, Nat.zero_add, Nat.zero_le]
        have e0 : lo (H w) = c := by rw [e1]; exact (s.pj cn).2
        have ev := V1e e0
        rw [ev, ← e1]
        have : v (35 + 65 * H w + 4) = nI (P w) := by
          rcases q.foc g1 with ⟨z, -⟩ | ⟨f, f1, f2, f3⟩
          · omega
          · rw [← e1] at e2
            rw [f3] at e2
            have o := q.od _ f g1 f1
            have := nI_inj (by omega) (by omega) e2
            rw [this] at o
            rw [f2, o.2.2.2.2]
        rw [← this, upd_self, ← HM_of t.2.2.2]
      · simp only [e1, if_true, if_false, ite_true, ite_false, not_true_eq_false, not_false_eq_true, true_or, or_true, false_or, or_false, and_self, ok_n0, ok_ni, ok_nr, ok_nl, va_rf_some, va_rf_none, true_and, and_true, List.length_nil, List.length_cons, Option.toList_some, Option.toList_none, List.cons_append, List.nil_append, rK_uA, rK_uI, rK_uJ, rK_uP, rP_uA, rP_uI, rP_uJ, rJ_uA, rJ_uI, rJ_uP, rI_uJ, rI_uP, rz_uA, rz_uI, rz_uJ, rz_uP, rs_uA, rs_uI, rs_uJ, rs_uP, Nat.reduceAdd, Nat.reduceMul, Nat.reduceSub, Nat.reduceLeDiff, Nat.reduceLT, Nat.reduceEqDiff, Nat.add_zero, Nat.zero_add, Nat.zero_le]
        rw [e1] at e2
        simp only [e2, if_true, if_false, ite_true, ite_false, not_true_eq_false, not_false_eq_true, true_or, or_true, false_or, or_false, and_self, ok_n0, ok_ni, ok_nr, ok_nl, va_rf_some, va_rf_none, true_and, and_true, List.length_nil, List.length_cons, Option.toList_some, Option.toList_none, List.cons_append, List.nil_append, rK_uA, rK_uI, rK_uJ, rK_uP, rP_uA, rP_uI, rP_uJ, rJ_uA, rJ_uI, rJ_uP, rI_uJ, rI_uP, rz_uA, rz_uI, rz_uJ, rz_uP, rs_uA, rs_uI, rs_uJ, rs_uP, Nat.reduceAdd, Nat.reduceMul, Nat.reduceSub, Nat.reduceLeDiff, Nat.reduceLT, Nat.reduceEqDiff, Nat.add_zero, Nat.zero_add, Nat.zero_le]
    · simp only [e1, if_true, if_false, ite_true, ite_false, not_true_eq_false, not_false_eq_true, true_or, or_true, false_or, or_false, and_self, ok_n0, ok_ni, ok_nr, ok_nl, va_rf_some, va_rf_none, true_and, and_true, List.length_nil, List.length_cons, Option.toList_some, Option.toList_none, List.cons_append, List.nil_append, rK_uA, rK_uI, rK_uJ, rK_uP, rP_uA, rP_uI, rP_uJ, rJ_uA, rJ_uI, rJ_uP, rI_uJ, rI_uP, rz_uA, rz_uI, rz_uJ, rz_uP, rs_uA, rs_uI, rs_uJ, rs_uP, Nat.reduceAdd, Nat.reduceMul, Nat.reduceSub, Nat.reduceLeDiff, Nat.reduceLT, Nat.reduceEqDiff, Nat.add_zero, Nat.zero_add, Nat.zero_le]
  · obtain ⟨k0, k1, k2, k3, k4, k5, k6, k7, k8, k9, k10, k11, k12, k13⟩ := t.k
    obtain ⟨j1, j2, j3, j4, j5, j6⟩ := k7 _ g1
    obtain ⟨h1, x1, D1, f1⟩ := V1.2.2 h d t.dvs
    rw [brm_f] at x1
    have t1 := t.mix D1 n4 f1
    have q1' : RI (mixV v1 v) C H P := q.cg (fun e h1 _ => mix_hi _ _ h1)
    have s1' : SI (mixV v1 v) n c1 p1 lo1 r1 rl1 := s1.cg (fun e he => mix_lo _ _ he)
    have ds1 := t1.ds s1' q1'
    have x2 := s_Row_turnTo (ds1.row g1) (nI w)
    rw [q1'.ord_fnd t1 hw (by rw [mix_hi _ _ (by omega)]; exact ht)] at x2
    have hom := t.hom w hw
    rw [if_pos ht] at hom
    have hom1 := t1.hom w hw
    rw [mix_hi _ _ (by omega), if_pos ht] at hom1
    have F1 : FRD d (d + 53) h h1 := f1.mono (by omega) (by omega)
    refine ⟨uI h1 (d + 3 + 4 * H w) 1 (nI (P w)), fun Q => ?_, (DV.row (C' := C) t1 g1 n4 (FRD.uI _ (by omega) (by omega) _ _) (v' := upd (mixV v1 v) (35 + 65 * H w + 4) (nI (P w))) (fun e he => by rw [upd_at, if_neg (by omega)]) (fun cc hcc => ?_) ?_ ?_ (fun k hk => ?_) (fun _ _ _ => rfl) q.c60).cgv n4 q.c60 (fun e he => ?_), F1.tr (FRD.uI _ (by omega) (by omega) _ _)⟩
    · simp (disch := omega) only [k21_0, k21_1, k21_4, k21_5, k21_8, k21_9, k21_10, k21_13, k21_14, k21_17, k21_18, k21_21, k21_22, k21_23, k21_24, k21_25, k21_28, x1, x2, hom, hom1, if_true, if_false, ite_true, ite_false, not_true_eq_false, not_false_eq_true, true_or, or_true, false_or, or_false, and_self, ok_n0, ok_ni, ok_nr, ok_nl, va_rf_some, va_rf_none, true_and, and_true, List.length_nil, List.length_cons, Option.toList_some, Option.toList_none, List.cons_append, List.nil_append, rK_uA, rK_uI, rK_uJ, rK_uP, rP_uA, rP_uI, rP_uJ, rJ_uA, rJ_uI, rJ_uP, rI_uJ, rI_uP, rz_uA, rz_uI, rz_uJ, rz_uP, rs_uA, rs_uI, rs_uJ, rs_uP, Nat.reduceAdd, Nat.reduceMul, Nat.reduceSub, Nat.reduceLeDiff, Nat.reduceLT, Nat.reduceEqDiff, Nat.add_zero, Nat.zero_add, Nat.zero_le, k0, k1, k2, k5 _ g1, k8, k9.1, k12, k13, j1, g1, ar_oki, ar_okr, ar_cl, hw, F1.fk, F1.fp]
    · rw [rI_uI, if_neg (by omega), upd_at, if_neg (by omega)]; exact t1.lay _ cc g1 hcc
    · rw [rI_uI, if_neg (by omega), upd_at, if_neg (by omega)]; exact t1.cnt _ g1
    · rw [rI_uI, if_pos rfl, pk_us, upd_at, if_pos rfl]
    · rw [rI_uI, if_neg (by omega), upd_at, if_neg (by omega)]; exact t1.ord _ k g1 hk
    · rw [upd_at, upd_at]
      split
      · rfl
      · by_cases lo35 : e < 35
        · rw [mix_lo _ _ lo35]
        · rw [mix_hi _ _ (by omega), V1.1.1 e (by omega)]
/-- where a window carried from f to t comes from, and goes to -/
def carS (f t : Nat) : Nat → Nat := fun k => if k = t then f else if f < t then (if f ≤ k ∧ k < t then k + 1 else k) else if t < k ∧ k ≤ f then k - 1 else k
def carT (f t : Nat) : Nat → Nat := fun k => if k = f then t else if f < t then (if f < k ∧ k ≤ t then k - 1 else k) else if t ≤ k ∧ k < f then k + 1 else k
theorem car_pi {f t m : Nat} (hf : f < m) (ht : t < m) : PI m (carS f t) (carT f t) := by
  constructor
  · intro k hk
    by_cases e : k = t
    · have a : carS f t k = f := by rw [carS, if_pos e]
      have b : carT f t f = t := by rw [carT, if_pos rfl]
      rw [a, b]; omega
    · by_cases e2 : f < t
      · by_cases e3 : f ≤ k ∧ k < t
        · have a : carS f t k = k + 1 := by rw [carS, if_neg e, if_pos e2, if_pos e3]
          have b : carT f t (k + 1) = k + 1 - 1 := by rw [carT, if_neg (by omega), if_pos e2, if_pos (by omega)]
          rw [a, b]; omega
        · have a : carS f t k = k := by rw [carS, if_neg e, if_pos e2, if_neg e3]
          have b : carT f t k = k := by rw [carT, if_neg (by omega), if_pos e2, if_neg (by omega)]
          rw [a, b]; omega
      · by_cases e3 : t < k ∧ k ≤ f
        · have a : carS f t k = k - 1 := by rw [carS, if_neg e, if_neg e2, if_pos e3]
          have b : carT f t (k - 1) = k - 1 + 1 := by rw [carT, if_neg (by omega), if_neg e2, if_pos (by omega)]
          rw [a, b]; omega
        · have a : carS f t k = k := by rw [carS, if_neg e, if_neg e2, if_neg e3]
          have b : carT f t k = k := by rw [carT, if_neg (by omega), if_neg e2, if_neg (by omega)]
          rw [a, b]; omega
  · intro k hk
    by_cases e : k = f
    · have a : carT f t k = t := by rw [carT, if_pos e]
      have b : carS f t t = f := by rw [carS, if_pos rfl]
      rw [a, b]; omega
    · by_cases e2 : f < t
      · by_cases e3 : f < k ∧ k ≤ t
        · have a : carT f t k = k - 1 := by rw [carT, if_neg e, if_pos e2, if_pos e3]
          have b : carS f t (k - 1) = k - 1 + 1 := by rw [carS, if_neg (by omega), if_pos e2, if_pos (by omega)]
          rw [a, b]; omega
        · have a : carT f t k = k := by rw [carT, if_neg e, if_pos e2, if_neg e3]
          have b : carS f t k = k := by rw [carS, if_neg (by omega), if_pos e2, if_neg (by omega)]
          rw [a, b]; omega
      · by_cases e3 : t ≤ k ∧ k < f
        · have a : carT f t k = k + 1 := by rw [carT, if_neg e, if_neg e2, if_pos e3]
          have b : carS f t (k + 1) = k + 1 - 1 := by rw [carS, if_neg (by omega), if_neg e2, if_pos (by omega)]
          rw [a, b]; omega
        · have a : carT f t k = k := by rw [carT, if_neg e, if_neg e2, if_neg e3]
          have b : carS f t k = k := by rw [carS, if_neg (by omega), if_neg e2, if_neg (by omega)]
          rw [a, b]; omega
theorem car_k (v : Nat → Int32) (i f t k : Nat) : carV v i f t (35 + 65 * i + 5 + k) = v (35 + 65 * i + 5 + carS f t k) := by
  simp only [carV, carS]
  by_cases e2 : f < t
  · rw [if_pos e2, upd_at]
    by_cases e : k = t
    · rw [if_pos (by omega), if_pos e]
    · rw [if_neg (by omega), if_neg e, if_pos e2]
      simp only [va_cpy]
      by_cases e3 : f ≤ k ∧ k < t
      · rw [if_pos (by omega), if_pos e3]; congr 1; omega
      · rw [if_neg (by omega), if_neg e3]
  · rw [if_neg e2, upd_at]
    by_cases e : k = t
    · rw [if_pos (by omega), if_pos e]
    · rw [if_neg (by omega), if_neg e, if_neg e2]
      simp only [va_cpy]
      by_cases e3 : t < k ∧ k ≤ f
      · rw [if_pos (by omega), if_pos e3]; congr 1; omega
      · rw [if_neg (by omega), if_neg e3]
theorem car_o (v : Nat → Int32) {i f t e : Nat} (hf : f < 60) (ht : t < 60) (h : e < 35 + 65 * i + 5 ∨ 35 + 65 * i + 65 ≤ e) : carV v i f t e = v e := by
  simp only [carV]
  by_cases e2 : f < t
  · rw [if_pos e2, upd_at, if_neg (by omega)]
    simp only [va_cpy]
    rw [if_neg (by omega)]
  · rw [if_neg e2, upd_at, if_neg (by omega)]
    simp only [va_cpy]
    rw [if_neg (by omega)]
theorem car_l (g : Nat → Int32) {f t m k : Nat} (hf : f < m) (ht : t < m) (hk : k < m) : lins (lrem g f m) t (m - 1) (g f) k = g (carS f t k) := by
  rw [lins_at _ _ (by omega)]
  simp only [carS]
  by_cases e : k = t
  · rw [if_pos e, if_pos e]
  · rw [if_neg e, if_neg e]
    by_cases e3 : t < k ∧ k ≤ m - 1
    · rw [if_pos e3, lrem_at]
      by_cases e2 : f < t
      · rw [if_pos (by omega), if_pos e2, if_neg (by omega)]; congr 1; omega
      · rw [if_neg e2]
        by_cases e4 : k ≤ f
        · rw [if_neg (by omega), if_pos (by omega)]
        · rw [if_pos (by omega), if_neg (by omega)]; congr 1; omega
    · rw [if_neg e3, lrem_at]
      by_cases e2 : f < t
      · rw [if_pos e2]
        by_cases e4 : f ≤ k ∧ k < t
        · rw [if_pos (by omega), if_pos e4]
        · rw [if_neg (by omega), if_neg e4]
      · rw [if_neg (by omega), if_neg e2, if_neg (by omega)]
/-- the row of i behind move(what): n windows, the focus at f -/
def movV (v : Nat → Int32) (i m f : Nat) (what : Nat) : Nat → Int32 :=
  if what = 0 then upd v (35 + 65 * i + 4) (nI ((f + m - 1) % m)) else if what = 1 then upd v (35 + 65 * i + 4) (nI ((f + 1) % m)) else if what = 2 then upd v (35 + 65 * i + 4) (nI 0)
  else if what = 3 then upd (carV v i f ((f + m - 1) % m)) (35 + 65 * i + 4) (nI ((f + m - 1) % m))
  else if what = 4 then upd (carV v i f ((f + 1) % m)) (35 + 65 * i + 4) (nI ((f + 1) % m))
  else if what = 5 then upd (upd (upd v (35 + 65 * i + 5) (v (35 + 65 * i + 5 + f))) (35 + 65 * i + 5 + f) (v (35 + 65 * i + 5))) (35 + 65 * i + 4) (nI 0)
  else upd (carV v i f 0) (35 + 65 * i + 4) (nI 0)
/-- a row whose windows are put in another order, with a focus -/
def PRM (v : Nat → Int32) (v' : Nat → Int32) (i : Nat) (m : Nat) (f : Nat) (σ : Nat → Nat) (τ : Nat → Nat) : Prop := (∀ e, (e < 35 + 65 * i + 4 ∨ 35 + 65 * i + 65 ≤ e) → v' e = v e) ∧ (v' (35 + 65 * i + 4) = nI f) ∧ (f < m) ∧ (PI m σ τ) ∧ (∀ k, k < m → v' (35 + 65 * i + 5 + k) = v (35 + 65 * i + 5 + σ k)) ∧ (∀ k, m ≤ k → k < 60 → v' (35 + 65 * i + 5 + k) = v (35 + 65 * i + 5 + k))
theorem PRM.o {v : Nat → Int32} {v' : Nat → Int32} {i : Nat} {m : Nat} {f : Nat} {σ : Nat → Nat} {τ : Nat → Nat} (x_ : PRM v v' i m f σ τ) : ∀ e, (e < 35 + 65 * i + 4 ∨ 35 + 65 * i + 65 ≤ e) → v' e = v e := x_.1
theorem PRM.fo {v : Nat → Int32} {v' : Nat → Int32} {i : Nat} {m : Nat} {f : Nat} {σ : Nat → Nat} {τ : Nat → Nat} (x_ : PRM v v' i m f σ τ) : v' (35 + 65 * i + 4) = nI f := x_.2.1
theorem PRM.fm {v : Nat → Int32} {v' : Nat → Int32} {i : Nat} {m : Nat} {f : Nat} {σ : Nat → Nat} {τ : Nat → Nat} (x_ : PRM v v' i m f σ τ) : f < m := x_.2.2.1
theorem PRM.pi {v : Nat → Int32} {v' : Nat → Int32} {i : Nat} {m : Nat} {f : Nat} {σ : Nat → Nat} {τ : Nat → Nat} (x_ : PRM v v' i m f σ τ) : PI m σ τ := x_.2.2.2.1
theorem PRM.od {v : Nat → Int32} {v' : Nat → Int32} {i : Nat} {m : Nat} {f : Nat} {σ : Nat → Nat} {τ : Nat → Nat} (x_ : PRM v v' i m f σ τ) : ∀ k, k < m → v' (35 + 65 * i + 5 + k) = v (35 + 65 * i + 5 + σ k) := x_.2.2.2.2.1
theorem PRM.zo {v : Nat → Int32} {v' : Nat → Int32} {i : Nat} {m : Nat} {f : Nat} {σ : Nat → Nat} {τ : Nat → Nat} (x_ : PRM v v' i m f σ τ) : ∀ k, m ≤ k → k < 60 → v' (35 + 65 * i + 5 + k) = v (35 + 65 * i + 5 + k) := x_.2.2.2.2.2
theorem PRM.ri {v' : Nat → Int32} {i f : Nat} {σ τ : Nat → Nat} (q : RI v C H P) (hi : i < 9) (t : PRM v v' i (C i) f σ τ) : RI v' C H (fun w => if H w = i then τ (P w) else P w) := by
  refine RI.perm q hi (fun e h1 h2 h3 => t.o e (by omega)) ?_ ?_ ?_ (t.o _ (by omega)) (Or.inr ⟨f, t.fm, t.fo⟩) t.pi t.od t.zo
  · rw [t.o _ (by omega)]; exact q.kd i hi
  · rw [t.o _ (by omega)]; exact q.ms i hi
  · rw [t.o _ (by omega)]; exact q.pt i hi
theorem PRM.fo1 (v : Nat → Int32) (i : Nat) {m f : Nat} (hf : f < m) : PRM v (upd v (35 + 65 * i + 4) (nI f)) i m f (fun k => k) (fun k => k) :=
  ⟨fun e he => by rw [upd_at, if_neg (by omega)], by rw [upd_at, if_pos rfl], hf, PI.id _, fun k hk => by rw [upd_at, if_neg (by omega)], fun k _ _ => by rw [upd_at, if_neg (by omega)]⟩
theorem PRM.car (v : Nat → Int32) (i : Nat) {m f t : Nat} (hf : f < m) (ht : t < m) (hm : m ≤ 60) : PRM v (upd (carV v i f t) (35 + 65 * i + 4) (nI t)) i m t (carS f t) (carT f t) := by
  refine ⟨fun e he => by rw [upd_at, if_neg (by omega), car_o v (by omega) (by omega) (by omega)], by rw [upd_at, if_pos rfl], ht, car_pi hf ht, fun k hk => by rw [upd_at, if_neg (by omega), car_k], fun k h1 h2 => ?_⟩
  rw [upd_at, if_neg (by omega), car_k]
  simp only [carS]
  rw [if_neg (by omega)]
  split
  · rw [if_neg (by omega)]
  · rw [if_neg (by omega)]
theorem PRM.swp (v : Nat → Int32) (i : Nat) {m f : Nat} (hf : f < m) (hm : m ≤ 60) : PRM v (upd (upd (upd v (35 + 65 * i + 5) (v (35 + 65 * i + 5 + f))) (35 + 65 * i + 5 + f) (v (35 + 65 * i + 5))) (35 + 65 * i + 4) (nI 0)) i m 0 (fun k => if k = f then 0 else if k = 0 then f else k) (fun k => if k = f then 0 else if k = 0 then f else k) := by
  refine ⟨fun e he => by rw [upd_at, if_neg (by omega), upd_at, if_neg (by omega), upd_at, if_neg (by omega)], by rw [upd_at, if_pos rfl], by omega, ⟨fun k hk => ?_, fun k hk => ?_⟩, fun k hk => ?_, fun k h1 h2 => by rw [upd_at, if_neg (by omega), upd_at, if_neg (by omega), upd_at, if_neg (by omega)]⟩
  · simp only
    by_cases e : k = f
    · rw [if_pos e]
      by_cases e2 : f = 0
      · rw [if_pos e2.symm]; omega
      · rw [if_neg (by omega), if_pos rfl]; omega
    · rw [if_neg e]
      by_cases e2 : k = 0
      · rw [if_pos e2, if_pos rfl]; omega
      · rw [if_neg e2, if_neg e, if_neg e2]; omega
  · simp only
    by_cases e : k = f
    · rw [if_pos e]
      by_cases e2 : f = 0
      · rw [if_pos e2.symm]; omega
      · rw [if_neg (by omega), if_pos rfl]; omega
    · rw [if_neg e]
      by_cases e2 : k = 0
      · rw [if_pos e2, if_pos rfl]; omega
      · rw [if_neg e2, if_neg e, if_neg e2]; omega
  · rw [upd_at, if_neg (by omega), upd_at, upd_at]
    simp only
    by_cases e : k = f
    · rw [if_pos (by omega), if_pos e]
    · rw [if_neg (by omega), if_neg e]
      by_cases e2 : k = 0
      · rw [if_pos (by omega), if_pos e2]
      · rw [if_neg (by omega), if_neg e2]
theorem mov_prm (v : Nat → Int32) (i : Nat) {m f : Nat} (hf : f < m) (hm : m ≤ 60) (what : Nat) : ∃ g σ τ, PRM v (movV v i m f what) i m g σ τ := by
  have m1 : (f + m - 1) % m < m := Nat.mod_lt _ (by omega)
  have m2 : (f + 1) % m < m := Nat.mod_lt _ (by omega)
  simp only [movV]
  split
  · exact ⟨_, _, _, PRM.fo1 v i m1⟩
  · split
    · exact ⟨_, _, _, PRM.fo1 v i m2⟩
    · split
      · exact ⟨_, _, _, PRM.fo1 v i (show 0 < m by omega)⟩
      · split
        · exact ⟨_, _, _, PRM.car v i hf m1 hm⟩
        · split
          · exact ⟨_, _, _, PRM.car v i hf m2 hm⟩
          · split
            · exact ⟨_, _, _, PRM.swp v i hf hm⟩
            · exact ⟨_, _, _, PRM.car v i hf (show 0 < m by omega) hm⟩
/-- a heap whose row of i is that one -/
theorem DV.prm {v' : Nat → Int32} {h h' : pm_H} {d i f : Nat} {σ τ : Nat → Nat} (t : DV h d v n C H) (q : RI v C H P) (hi : i < 9) (hn : n ≤ 4) (u : PRM v v' i (C i) f σ τ) (fr : FRD (d + 3 + 4 * i) (d + 7 + 4 * i) h h') (k1 : rI h' (d + 6 + 4 * i) = rI h (d + 6 + 4 * i)) (k2 : rI h' (d + 4 + 4 * i) 1 = nI (C i)) (k3 : rI h' (d + 3 + 4 * i) 1 = nI f) (k4 : ∀ k, k < C i → rI h' (d + 5 + 4 * i) k = rI h (d + 5 + 4 * i) (σ k)) : DV h' d v' n C H := by
  refine DV.row t hi hn fr (fun e he => u.o e (by omega)) (fun c hc => ?_) ?_ ?_ (fun k hk => ?_) (fun _ _ _ => rfl) q.c60
  · rw [k1, u.o _ (by omega)]; exact t.lay i c hi hc
  · rw [k2, u.o _ (by omega)]; exact (q.ct i hi).symm
  · rw [k3]; exact u.fo.symm
  · rw [k4 k hk, u.od k hk]; exact t.ord i _ hi (u.pi.1 k hk).1
theorem rearr_dv {h : pm_H} {d i f : Nat} (t : DV h d v n C H) (q : RI v C H P) (hi : i < 9) (hn : n ≤ 4) (hf : f < C i) {w : Nat} (hw : w < 7) : DV (rarr h (d + 3 + 4 * i) (d + 4 + 4 * i) (d + 5 + 4 * i) (C i) f (nI w)) d (movV v i (C i) f w) n C H ∧ FRD (d + 3 + 4 * i) (d + 7 + 4 * i) h (rarr h (d + 3 + 4 * i) (d + 4 + 4 * i) (d + 5 + 4 * i) (C i) f (nI w)) := by
  have hc := q.c60 i hi
  have m1 : (f + C i - 1) % C i < C i := Nat.mod_lt _ (by omega)
  have m2 : (f + 1) % C i < C i := Nat.mod_lt _ (by omega)
  have kc : rI h (d + 4 + 4 * i) 1 = nI (C i) := (t.cnt i hi).trans (q.ct i hi)
  have A : ∀ g, g < C i → DV (uI h (d + 3 + 4 * i) 1 (nI g)) d (upd v (35 + 65 * i + 4) (nI g)) n C H ∧ FRD (d + 3 + 4 * i) (d + 7 + 4 * i) h (uI h (d + 3 + 4 * i) 1 (nI g)) := fun g hg => by
    refine ⟨DV.prm t q hi hn (PRM.fo1 v i hg) (FRD.uI _ (by omega) (by omega) _ _) ?_ ?_ ?_ (fun k hk => ?_), FRD.uI _ (by omega) (by omega) _ _⟩
    · rw [rI_uI, if_neg (by omega)]
    · rw [rI_uI, if_neg (by omega)]; exact kc
    · rw [rI_uI, if_pos rfl, pk_us]
    · rw [rI_uI, if_neg (by omega)]
  have B : ∀ g, g < C i → DV (uI (uI (uA h (d + 5 + 4 * i) (lins (lrem (rI h (d + 5 + 4 * i)) f (C i)) g (C i - 1) (rI h (d + 5 + 4 * i) f))) (d + 4 + 4 * i) 1 (nI (C i))) (d + 3 + 4 * i) 1 (nI g)) d (upd (carV v i f g) (35 + 65 * i + 4) (nI g)) n C H ∧ FRD (d + 3 + 4 * i) (d + 7 + 4 * i) h (uI (uI (uA h (d + 5 + 4 * i) (lins (lrem (rI h (d + 5 + 4 * i)) f (C i)) g (C i - 1) (rI h (d + 5 + 4 * i) f))) (d + 4 + 4 * i) 1 (nI (C i))) (d + 3 + 4 * i) 1 (nI g)) := fun g hg => by
    have F := ((FRD.uA (a := d + 3 + 4 * i) (b := d + 7 + 4 * i) h (q := d + 5 + 4 * i) (by omega) (by omega) (lins (lrem (rI h (d + 5 + 4 * i)) f (C i)) g (C i - 1) (rI h (d + 5 + 4 * i) f))).tr (FRD.uI _ (q := d + 4 + 4 * i) (by omega) (by omega) 1 (nI (C i)))).tr (FRD.uI _ (q := d + 3 + 4 * i) (by omega) (by omega) 1 (nI g))
    refine ⟨DV.prm t q hi hn (PRM.car v i hf hg hc) F ?_ ?_ ?_ (fun k hk => ?_), F⟩
    · rw [rI_uI, if_neg (by omega), rI_uI, if_neg (by omega), rI_uA, if_neg (by omega)]
    · rw [rI_uI, if_neg (by omega), rI_uI, if_pos rfl, pk_us]
    · rw [rI_uI, if_pos rfl, pk_us]
    · rw [rI_uI, if_neg (by omega), rI_uI, if_neg (by omega), rI_uA, if_pos rfl, car_l _ hf hg hk]
  have S : DV (uI (uA h (d + 5 + 4 * i) (upd (upd (rI h (d + 5 + 4 * i)) 0 (rI h (d + 5 + 4 * i) f)) f (rI h (d + 5 + 4 * i) 0))) (d + 3 + 4 * i) 1 (nI 0)) d (upd (upd (upd v (35 + 65 * i + 5) (v (35 + 65 * i + 5 + f))) (35 + 65 * i + 5 + f) (v (35 + 65 * i + 5))) (35 + 65 * i + 4) (nI 0)) n C H ∧ FRD (d + 3 + 4 * i) (d + 7 + 4 * i) h (uI (uA h (d + 5 + 4 * i) (upd (upd (rI h (d + 5 + 4 * i)) 0 (rI h (d + 5 + 4 * i) f)) f (rI h (d + 5 + 4 * i) 0))) (d + 3 + 4 * i) 1 (nI 0)) := by
    have F := (FRD.uA (a := d + 3 + 4 * i) (b := d + 7 + 4 * i) h (q := d + 5 + 4 * i) (by omega) (by omega) (upd (upd (rI h (d + 5 + 4 * i)) 0 (rI h (d + 5 + 4 * i) f)) f (rI h (d + 5 + 4 * i) 0))).tr (FRD.uI _ (q := d + 3 + 4 * i) (by omega) (by omega) 1 (nI 0))
    refine ⟨DV.prm t q hi hn (PRM.swp v i hf hc) F ?_ ?_ ?_ (fun k hk => ?_), F⟩
    · rw [rI_uI, if_neg (by omega), rI_uA, if_neg (by omega)]
    · rw [rI_uI, if_neg (by omega), rI_uA, if_neg (by omega)]; exact kc
    · rw [rI_uI, if_pos rfl, pk_us]
    · rw [rI_uI, if_neg (by omega), rI_uA, if_pos rfl, upd_at, upd_at]
      by_cases e : k = f
      · rw [if_pos e, if_pos e]
      · rw [if_neg e, if_neg e]
        by_cases e2 : k = 0
        · rw [if_pos e2, if_pos e2]
        · rw [if_neg e2, if_neg e2]
  have hw' : w = 0 ∨ w = 1 ∨ w = 2 ∨ w = 3 ∨ w = 4 ∨ w = 5 ∨ w = 6 := by omega
  rcases hw' with rfl | rfl | rfl | rfl | rfl | rfl | rfl
  · simp (disch := omega) only [rarr, movV, ar_eq, Nat.reduceEqDiff, if_true, if_false]; exact A _ m1
  · simp (disch := omega) only [rarr, movV, ar_eq, Nat.reduceEqDiff, if_true, if_false]; exact A _ m2
  · simp (disch := omega) only [rarr, movV, ar_eq, Nat.reduceEqDiff, if_true, if_false]; exact A _ (by omega)
  · simp (disch := omega) only [rarr, movV, ar_eq, Nat.reduceEqDiff, if_true, if_false]; exact B _ m1
  · simp (disch := omega) only [rarr, movV, ar_eq, Nat.reduceEqDiff, if_true, if_false]; exact B _ m2
  · simp (disch := omega) only [rarr, movV, ar_eq, Nat.reduceEqDiff, if_true, if_false]; exact S
  · simp (disch := omega) only [rarr, movV, ar_eq, Nat.reduceEqDiff, if_true, if_false]; exact B _ (by omega)
theorem mov_one (v : Nat → Int32) (i : Nat) {w : Nat} (hf : v (35 + 65 * i + 4) = nI 0) : movV v i 1 0 w = v := by
  have e : carV v i 0 0 = v := by
    funext k
    simp only [carV, Nat.lt_irrefl, if_false, upd_at, va_cpy]
    by_cases x : k = 35 + 65 * i + 5 + 0
    · rw [if_pos x, x]
    · rw [if_neg x, if_neg (by omega)]
  have z : upd v (35 + 65 * i + 4) (nI 0) = v := by rw [← hf, upd_self]
  simp only [movV, Nat.mod_one, e, z, Nat.add_zero, upd_self, ite_self]
end TURN
