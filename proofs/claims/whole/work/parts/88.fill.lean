/-! FILL AND sameAs -/
theorem t_Line_fill {a b n a2 b2 n2 s2 : Nat} {h : pm_H} (k1 : rK h a = (1, 5)) (k2 : rP h a 0 = some b) (k3 : rK h b = (2, n)) (k4 : a ≠ b) (k7 : n ≤ 100000) (l2 : LN h a2 b2 n2 s2) (hs : s2 ≤ n) (h1 : a ≠ a2) (h2 : a ≠ b2) (Q : Option Value × pm_H → Prop) : pGo 60 0 [some (.ref a), some (.ref a2)] [] h Q = Q (none, uA (uI h a 1 (nI s2)) b (va_cpy (rI h b2) (rI h b) 0 0 s2)) := by
  obtain ⟨j1, j2, j3, j4, j5, j6, j7⟩ := id l2
  have c1 : ¬ n < s2 := by omega
  have d1 : ¬ a2 = a := fun q => h1 q.symm
  have d2 : ¬ b2 = a := fun q => h2 q.symm
  have d3 : ¬ b = a := fun q => k4 q.symm
  simp (disch := omega) only [k60_0, k60_1, k60_2, k60_5, k60_6, k60_9, k60_10, k60_13, k60_16, k60_17, k60_20, k60_21, k60_22, k60_25, k60_26, k60_27, k60_30, k60_33, s_min, if_true, if_false, ite_true, ite_false, not_true_eq_false, not_false_eq_true, true_or, or_true, false_or, or_false, and_self, ok_n0, ok_ni, ok_nr, ok_nl, va_rf_some, va_rf_none, true_and, and_true, List.length_nil, List.length_cons, Option.toList_some, Option.toList_none, List.cons_append, List.nil_append, rK_uA, rK_uI, rK_uJ, rK_uP, rP_uA, rP_uI, rP_uJ, rJ_uA, rJ_uI, rJ_uP, rI_uJ, rI_uP, rz_uA, rz_uI, rz_uJ, rz_uP, rs_uA, rs_uI, rs_uJ, rs_uP, Nat.reduceAdd, Nat.reduceMul, Nat.reduceSub, Nat.reduceLeDiff, Nat.reduceLT, Nat.reduceEqDiff, Nat.add_zero, Nat.zero_add, Nat.zero_le, k1, k2, k3, j1, j2, j3, j5, ar_le, ar_lt, ar_cl, ar_n0, rI_uI, rI_uA, d1, d2, d3, c1, j6, hs, pk_us]
theorem cpy_in (f g : Nat → Int32) {m k : Nat} (h : k < m) : va_cpy f g 0 0 m k = f k := by
  simp only [va_cpy]
  rw [if_pos (by omega)]
  congr 1; omega
/-- rows and layouts below i are the others' -/
def FL (h0 : pm_H) (h : pm_H) (b : Nat) (d : Nat) (C : Nat → Nat) (i : Nat) : Prop := (FRD b (b + 53) h0 h) ∧ (∀ j, j < i → rI h (b + 4 + 4 * j) 1 = rI h0 (d + 4 + 4 * j) 1) ∧ (∀ j, j < i → rI h (b + 3 + 4 * j) 1 = rI h0 (d + 3 + 4 * j) 1) ∧ (∀ j k, j < i → k < C j → rI h (b + 5 + 4 * j) k = rI h0 (d + 5 + 4 * j) k) ∧ (∀ j c, j < i → c < 3 → rI h (b + 6 + 4 * j) c = rI h0 (d + 6 + 4 * j) c)
theorem FL.f {h0 : pm_H} {h : pm_H} {b : Nat} {d : Nat} {C : Nat → Nat} {i : Nat} (x_ : FL h0 h b d C i) : FRD b (b + 53) h0 h := x_.1
theorem FL.ct {h0 : pm_H} {h : pm_H} {b : Nat} {d : Nat} {C : Nat → Nat} {i : Nat} (x_ : FL h0 h b d C i) : ∀ j, j < i → rI h (b + 4 + 4 * j) 1 = rI h0 (d + 4 + 4 * j) 1 := x_.2.1
theorem FL.fo {h0 : pm_H} {h : pm_H} {b : Nat} {d : Nat} {C : Nat → Nat} {i : Nat} (x_ : FL h0 h b d C i) : ∀ j, j < i → rI h (b + 3 + 4 * j) 1 = rI h0 (d + 3 + 4 * j) 1 := x_.2.2.1
theorem FL.od {h0 : pm_H} {h : pm_H} {b : Nat} {d : Nat} {C : Nat → Nat} {i : Nat} (x_ : FL h0 h b d C i) : ∀ j k, j < i → k < C j → rI h (b + 5 + 4 * j) k = rI h0 (d + 5 + 4 * j) k := x_.2.2.2.1
theorem FL.ly {h0 : pm_H} {h : pm_H} {b : Nat} {d : Nat} {C : Nat → Nat} {i : Nat} (x_ : FL h0 h b d C i) : ∀ j c, j < i → c < 3 → rI h (b + 6 + 4 * j) c = rI h0 (d + 6 + 4 * j) c := x_.2.2.2.2
def FS (h0 : pm_H) (h : pm_H) (b : Nat) (d : Nat) (n : Nat) (i : Nat) : Prop := (FRD (b + 39) (b + 50) h0 h) ∧ (rI h (b + 39) 2 = nI n) ∧ (rI h (b + 39) 3 = rI h0 (d + 39) 3) ∧ (rI h (b + 39 + 7) 1 = nI (n - 1)) ∧ (rI h (b + 39 + 9) 1 = nI (9 - n)) ∧ (∀ k, k < n - 1 → rI h (b + 39 + 8) k = rI h0 (d + 39 + 8) k) ∧ (∀ k, k < 9 - n → rI h (b + 39 + 10) k = rI h0 (d + 39 + 10) k) ∧ (∀ j, j < i → rI h (b + 39 + 6) j = rI h0 (d + 39 + 6) j) ∧ (∀ j c, j < i → c < 4 → rI h (b + 39 + 2 + j) c = rI h0 (d + 39 + 2 + j) c)
theorem FS.f {h0 : pm_H} {h : pm_H} {b : Nat} {d : Nat} {n : Nat} {i : Nat} (x_ : FS h0 h b d n i) : FRD (b + 39) (b + 50) h0 h := x_.1
theorem FS.many {h0 : pm_H} {h : pm_H} {b : Nat} {d : Nat} {n : Nat} {i : Nat} (x_ : FS h0 h b d n i) : rI h (b + 39) 2 = nI n := x_.2.1
theorem FS.cur {h0 : pm_H} {h : pm_H} {b : Nat} {d : Nat} {n : Nat} {i : Nat} (x_ : FS h0 h b d n i) : rI h (b + 39) 3 = rI h0 (d + 39) 3 := x_.2.2.1
theorem FS.vsz {h0 : pm_H} {h : pm_H} {b : Nat} {d : Nat} {n : Nat} {i : Nat} (x_ : FS h0 h b d n i) : rI h (b + 39 + 7) 1 = nI (n - 1) := x_.2.2.2.1
theorem FS.hsz {h0 : pm_H} {h : pm_H} {b : Nat} {d : Nat} {n : Nat} {i : Nat} (x_ : FS h0 h b d n i) : rI h (b + 39 + 9) 1 = nI (9 - n) := x_.2.2.2.2.1
theorem FS.vis {h0 : pm_H} {h : pm_H} {b : Nat} {d : Nat} {n : Nat} {i : Nat} (x_ : FS h0 h b d n i) : ∀ k, k < n - 1 → rI h (b + 39 + 8) k = rI h0 (d + 39 + 8) k := x_.2.2.2.2.2.1
theorem FS.hid {h0 : pm_H} {h : pm_H} {b : Nat} {d : Nat} {n : Nat} {i : Nat} (x_ : FS h0 h b d n i) : ∀ k, k < 9 - n → rI h (b + 39 + 10) k = rI h0 (d + 39 + 10) k := x_.2.2.2.2.2.2.1
theorem FS.ws {h0 : pm_H} {h : pm_H} {b : Nat} {d : Nat} {n : Nat} {i : Nat} (x_ : FS h0 h b d n i) : ∀ j, j < i → rI h (b + 39 + 6) j = rI h0 (d + 39 + 6) j := x_.2.2.2.2.2.2.2.1
theorem FS.bx {h0 : pm_H} {h : pm_H} {b : Nat} {d : Nat} {n : Nat} {i : Nat} (x_ : FS h0 h b d n i) : ∀ j c, j < i → c < 4 → rI h (b + 39 + 2 + j) c = rI h0 (d + 39 + 2 + j) c := x_.2.2.2.2.2.2.2.2
section FILL
variable {v : Nat → Int32} {n c : Nat} {p lo r rl C H P : Nat → Nat} {h0 : pm_H} {d b : Nat}
theorem scfill_loop (D : DVS h0 d v n) (K : SCK h0 (b + 39)) (s : SI v n c p lo r rl) (ob : b + 53 ≤ d ∨ d + 53 ≤ b) : ∀ m i, i + m = n → ∀ h, FS h0 h b d n i → ∃ h', FS h0 h' b d n n ∧ ∀ Q, pGo 83 40 [some (.ref (b + 39)), some (.ref (d + 39)), some (.int (nI i))] [] h Q = Q (none, h') := by
  have n4 := s.n4
  obtain ⟨k0, k1, k2, k3, k4, k5, k6, k7, k8, k9, k10, k11, k12, k13, k14⟩ := id K
  obtain ⟨j0, j1, j2, j3, j4, j5, j6, j7, j8, j9, j10, j11, j12, j13, j14⟩ := id D.k
  intro m
  induction m with
  | zero =>
    intro i hi h a
    have hi : i = n := by omega
    subst hi
    refine ⟨h, a, fun Q => ?_⟩
    rw [k83_40]
    simp (disch := omega) only [k83_0, k83_1, k83_2, k83_5, k83_8, k83_9, k83_10, k83_13, k83_16, k83_17, k83_20, k83_21, k83_24, k83_27, k83_28, k83_31, k83_32, k83_35, k83_38, k83_39, k83_41, k83_42, k83_45, k83_48, k83_49, k83_52, k83_53, k83_54, k83_55, k83_58, k83_59, k83_60, k83_63, k83_64, k83_67, k83_68, k83_69, k83_72, k83_73, k83_74, k83_75, k83_78, k83_81, if_true, if_false, ite_true, ite_false, not_true_eq_false, not_false_eq_true, true_or, or_true, false_or, or_false, and_self, ok_n0, ok_ni, ok_nr, ok_nl, va_rf_some, va_rf_none, true_and, and_true, List.length_nil, List.length_cons, Option.toList_some, Option.toList_none, List.cons_append, List.nil_append, rK_uA, rK_uI, rK_uJ, rK_uP, rP_uA, rP_uI, rP_uJ, rJ_uA, rJ_uI, rJ_uP, rI_uJ, rI_uP, rz_uA, rz_uI, rz_uJ, rz_uP, rs_uA, rs_uI, rs_uJ, rs_uP, Nat.reduceAdd, Nat.reduceMul, Nat.reduceSub, Nat.reduceLeDiff, Nat.reduceLT, Nat.reduceEqDiff, Nat.add_zero, Nat.zero_add, Nat.zero_le, k0, a.f.fk, a.many, ar_le, Nat.le_refl]
  | succ m ih =>
    intro i hi h a
    have i4 : i < 4 := by omega
    have c1 : ¬ n ≤ i := by omega
    have x1 := s_Box_fill (h := h) (a := b + 39 + 2 + i) (a2 := d + 39 + 2 + i) (by rw [a.f.fk]; exact k4 i i4) (by rw [a.f.fk]; exact j4 i i4)
    rw [a.f.fi (d + 39 + 2 + i) (by omega)] at x1
    generalize hh1 : uA h (b + 39 + 2 + i) (bx4 (rI h (b + 39 + 2 + i)) (rI h0 (d + 39 + 2 + i) 0) (rI h0 (d + 39 + 2 + i) 1) (rI h0 (d + 39 + 2 + i) 2) (rI h0 (d + 39 + 2 + i) 3)) = h1 at x1
    have f1 : FRD (b + 39) (b + 50) h0 h1 := by rw [← hh1]; exact a.f.tr (FRD.uA _ (by omega) (by omega) _)
    have r1 : ∀ q, ¬ q = b + 39 + 2 + i → rI h1 q = rI h q := fun q hq => by rw [← hh1, rI_uA, if_neg hq]
    have e6 : rI h1 (d + 39 + 6) = rI h0 (d + 39 + 6) := f1.fi _ (by omega)
    generalize hh2 : uI h1 (b + 39 + 6) i (rI h0 (d + 39 + 6) i) = h2
    have f2 : FRD (b + 39) (b + 50) h0 h2 := by rw [← hh2]; exact f1.tr (FRD.uI _ (by omega) (by omega) _ _)
    have r2 : ∀ q, ¬ q = b + 39 + 6 → rI h2 q = rI h1 q := fun q hq => by rw [← hh2, rI_uI, if_neg hq]
    have a' : FS h0 h2 b d n (i + 1) := by
      refine ⟨f2, by rw [r2 _ (by omega), r1 _ (by omega)]; exact a.many, by rw [r2 _ (by omega), r1 _ (by omega)]; exact a.cur, by rw [r2 _ (by omega), r1 _ (by omega)]; exact a.vsz, by rw [r2 _ (by omega), r1 _ (by omega)]; exact a.hsz, fun k hk => by rw [r2 _ (by omega), r1 _ (by omega)]; exact a.vis k hk, fun k hk => by rw [r2 _ (by omega), r1 _ (by omega)]; exact a.hid k hk, fun j hj => ?_, fun j cc hj hc => ?_⟩
      · rw [← hh2, rI_uI, if_pos rfl, upd_at]
        by_cases e : j = i
        · rw [if_pos e, e]
        · rw [if_neg e, r1 _ (by omega)]; exact a.ws j (by omega)
      · rw [r2 _ (by omega)]
        by_cases e : j = i
        · subst e
          rw [← hh1, rI_uA, if_pos rfl]
          rcases (show cc = 0 ∨ cc = 1 ∨ cc = 2 ∨ cc = 3 by omega) with rfl | rfl | rfl | rfl
          · exact bx4_0 _ _ _ _ _
          · exact bx4_1 _ _ _ _ _
          · exact bx4_2 _ _ _ _ _
          · exact bx4_3 _ _ _ _ _
        · rw [r1 _ (by omega)]; exact a.bx j cc (by omega) hc
    obtain ⟨h', b', e⟩ := ih (i + 1) (by omega) _ a'
    refine ⟨h', b', fun Q => ?_⟩
    rw [← e Q, k83_40]
    simp (disch := omega) only [k83_0, k83_1, k83_2, k83_5, k83_8, k83_9, k83_10, k83_13, k83_16, k83_17, k83_20, k83_21, k83_24, k83_27, k83_28, k83_31, k83_32, k83_35, k83_38, k83_39, k83_41, k83_42, k83_45, k83_48, k83_49, k83_52, k83_53, k83_54, k83_55, k83_58, k83_59, k83_60, k83_63, k83_64, k83_67, k83_68, k83_69, k83_72, k83_73, k83_74, k83_75, k83_78, k83_81, x1, hh2, e6, if_true, if_false, ite_true, ite_false, not_true_eq_false, not_false_eq_true, true_or, or_true, false_or, or_false, and_self, ok_n0, ok_ni, ok_nr, ok_nl, va_rf_some, va_rf_none, true_and, and_true, List.length_nil, List.length_cons, Option.toList_some, Option.toList_none, List.cons_append, List.nil_append, rK_uA, rK_uI, rK_uJ, rK_uP, rP_uA, rP_uI, rP_uJ, rJ_uA, rJ_uI, rJ_uP, rI_uJ, rI_uP, rz_uA, rz_uI, rz_uJ, rz_uP, rs_uA, rs_uI, rs_uJ, rs_uP, Nat.reduceAdd, Nat.reduceMul, Nat.reduceSub, Nat.reduceLeDiff, Nat.reduceLT, Nat.reduceEqDiff, Nat.add_zero, Nat.zero_add, Nat.zero_le, k0, k1, k2, k3 i i4, k4 i i4, k5, k6, j0, j1, j2, j3 i i4, j4 i i4, j5, j6, a.f.fk, a.f.fp, f1.fk, f1.fp, a.many, ar_le, ar_add, ar_okr, ar_okw, ar_oki, ar_cl, c1, i4]
theorem scfill (D : DVS h0 d v n) (K : SCK h0 (b + 39)) (s : SI v n c p lo r rl) (ob : b + 53 ≤ d ∨ d + 53 ≤ b) : ∃ h', FS h0 h' b d n n ∧ ∀ Q, pGo 83 0 [some (.ref (b + 39)), some (.ref (d + 39)), none] [] h0 Q = Q (none, h') := by
  have n4 := s.n4
  have n1 := s.n1
  obtain ⟨k0, k1, k2, k3, k4, k5, k6, k7, k8, k9, k10, k11, k12, k13, k14⟩ := id K
  obtain ⟨j0, j1, j2, j3, j4, j5, j6, j7, j8, j9, j10, j11, j12, j13, j14⟩ := id D.k
  have sc := D.sc s
  generalize hh1 : uI (uI h0 (b + 39) 2 (nI n)) (b + 39) 3 (rI h0 (d + 39) 3) = h1
  have f1 : FRD (b + 39) (b + 50) h0 h1 := by rw [← hh1]; exact (FRD.uI _ (by omega) (by omega) _ _).tr (FRD.uI _ (by omega) (by omega) _ _)
  have r1 : ∀ q, ¬ q = b + 39 → rI h1 q = rI h0 q := fun q hq => by rw [← hh1, rI_uI, if_neg hq, rI_uI, if_neg hq]
  have lv : LN h1 (d + 39 + 7) (d + 39 + 8) 4 (n - 1) := by
    have := sc.vis
    unfold LN at *
    rw [f1.fk, f1.fp, r1 _ (by omega)]; exact this
  have x1 := t_Line_fill (h := h1) (a := b + 39 + 7) (b := b + 39 + 8) (by rw [f1.fk]; exact k8) (by rw [f1.fp]; exact k9) (by rw [f1.fk]; exact k10) (by omega) (by omega) lv (by omega) (by omega) (by omega)
  generalize hh2 : uA (uI h1 (b + 39 + 7) 1 (nI (n - 1))) (b + 39 + 8) (va_cpy (rI h1 (d + 39 + 8)) (rI h1 (b + 39 + 8)) 0 0 (n - 1)) = h2 at x1
  have f2 : FRD (b + 39) (b + 50) h0 h2 := by rw [← hh2]; exact (f1.tr (FRD.uI _ (by omega) (by omega) _ _)).tr (FRD.uA _ (by omega) (by omega) _)
  have r2 : ∀ q, ¬ q = b + 39 + 7 → ¬ q = b + 39 + 8 → rI h2 q = rI h1 q := fun q hq hq2 => by rw [← hh2, rI_uA, if_neg hq2, rI_uI, if_neg hq]
  have lh : LN h2 (d + 39 + 9) (d + 39 + 10) 9 (9 - n) := by
    have := sc.hid
    unfold LN at *
    rw [f2.fk, f2.fp, r2 _ (by omega) (by omega), r1 _ (by omega)]; exact this
  have x2 := t_Line_fill (h := h2) (a := b + 39 + 9) (b := b + 39 + 10) (by rw [f2.fk]; exact k12) (by rw [f2.fp]; exact k13) (by rw [f2.fk]; exact k14) (by omega) (by omega) lh (by omega) (by omega) (by omega)
  generalize hh3 : uA (uI h2 (b + 39 + 9) 1 (nI (9 - n))) (b + 39 + 10) (va_cpy (rI h2 (d + 39 + 10)) (rI h2 (b + 39 + 10)) 0 0 (9 - n)) = h3 at x2
  have f3 : FRD (b + 39) (b + 50) h0 h3 := by rw [← hh3]; exact (f2.tr (FRD.uI _ (by omega) (by omega) _ _)).tr (FRD.uA _ (by omega) (by omega) _)
  have r3 : ∀ q, ¬ q = b + 39 + 9 → ¬ q = b + 39 + 10 → rI h3 q = rI h2 q := fun q hq hq2 => by rw [← hh3, rI_uA, if_neg hq2, rI_uI, if_neg hq]
  have a : FS h0 h3 b d n 0 := by
    refine ⟨f3, ?_, ?_, ?_, ?_, fun k hk => ?_, fun k hk => ?_, fun j hj => absurd hj (by omega), fun j c hj => absurd hj (by omega)⟩
    · rw [r3 _ (by omega) (by omega), r2 _ (by omega) (by omega), ← hh1, rI_uI, if_pos rfl, upd_at, if_neg (by omega), rI_uI, if_pos rfl, pk_us]
    · rw [r3 _ (by omega) (by omega), r2 _ (by omega) (by omega), ← hh1, rI_uI, if_pos rfl, pk_us]
    · rw [r3 _ (by omega) (by omega), ← hh2, rI_uA, if_neg (by omega), rI_uI, if_pos rfl, pk_us]
    · rw [← hh3, rI_uA, if_neg (by omega), rI_uI, if_pos rfl, pk_us]
    · rw [r3 _ (by omega) (by omega), ← hh2, rI_uA, if_pos rfl, cpy_in _ _ hk, r1 _ (by omega)]
    · rw [← hh3, rI_uA, if_pos rfl, cpy_in _ _ hk, r2 _ (by omega) (by omega), r1 _ (by omega)]
  obtain ⟨h', b', e⟩ := scfill_loop D K s ob n 0 (by omega) h3 a
  refine ⟨h', b', fun Q => ?_⟩
  have dbd : ¬ d + 39 = b + 39 := by omega
  have hm := D.many.trans s.v0
  rw [k83_0]
  simp (disch := omega) only [k83_1, k83_2, k83_5, k83_8, k83_9, k83_10, k83_13, k83_16, k83_17, k83_20, k83_21, k83_24, k83_27, k83_28, k83_31, k83_32, k83_35, k83_38, k83_39, k83_41, k83_42, k83_45, k83_48, k83_49, k83_52, k83_53, k83_54, k83_55, k83_58, k83_59, k83_60, k83_63, k83_64, k83_67, k83_68, k83_69, k83_72, k83_73, k83_74, k83_75, k83_78, k83_81, x1, x2, if_true, if_false, ite_true, ite_false, not_true_eq_false, not_false_eq_true, true_or, or_true, false_or, or_false, and_self, ok_n0, ok_ni, ok_nr, ok_nl, va_rf_some, va_rf_none, true_and, and_true, List.length_nil, List.length_cons, Option.toList_some, Option.toList_none, List.cons_append, List.nil_append, rK_uA, rK_uI, rK_uJ, rK_uP, rP_uA, rP_uI, rP_uJ, rJ_uA, rJ_uI, rJ_uP, rI_uJ, rI_uP, rz_uA, rz_uI, rz_uJ, rz_uP, rs_uA, rs_uI, rs_uJ, rs_uP, Nat.reduceAdd, Nat.reduceMul, Nat.reduceSub, Nat.reduceLeDiff, Nat.reduceLT, Nat.reduceEqDiff, Nat.add_zero, Nat.zero_add, Nat.zero_le, k0, k7, k8, k11, k12, j0, j7, j8, j11, j12, rI_uI, dbd, hm, hh1, f1.fk, f1.fp, f2.fk, f2.fp, e Q]
theorem fill_loop (t : DV h0 d v n C H) (K : DK h0 b) (q : RI v C H P) (ob : b + 53 ≤ d ∨ d + 53 ≤ b) : ∀ m i, i + m = 9 → ∀ h, FL h0 h b d C i → ∃ h', FL h0 h' b d C 9 ∧ (∀ a, b + 39 ≤ a → rI h' a = rI h a) ∧ ∀ Q, pGo 28 2 [some (.ref b), some (.ref d), some (.int (nI i))] [] h Q = pGo 28 44 [some (.ref b), some (.ref d), some (.int (nI 9))] [] h' Q := by
  obtain ⟨k0, k1, k2, k3, k4, k5, k6, k7, k8, k9, k10, k11, k12, k13⟩ := id K
  obtain ⟨j0, j1, j2, j3, j4, j5, j6, j7, j8, j9, j10, j11, j12, j13⟩ := id t.k
  intro m
  induction m with
  | zero =>
    intro i hi h a
    have hi : i = 9 := by omega
    subst hi
    refine ⟨h, a, fun _ _ => rfl, fun Q => ?_⟩
    rw [k28_2]
    simp (disch := omega) only [k28_3, k28_5, if_true, if_false, ite_true, ite_false, not_true_eq_false, not_false_eq_true, true_or, or_true, false_or, or_false, and_self, ok_n0, ok_ni, ok_nr, ok_nl, va_rf_some, va_rf_none, true_and, and_true, List.length_nil, List.length_cons, Option.toList_some, Option.toList_none, List.cons_append, List.nil_append, rK_uA, rK_uI, rK_uJ, rK_uP, rP_uA, rP_uI, rP_uJ, rJ_uA, rJ_uI, rJ_uP, rI_uJ, rI_uP, rz_uA, rz_uI, rz_uJ, rz_uP, rs_uA, rs_uI, rs_uJ, rs_uP, Nat.reduceAdd, Nat.reduceMul, Nat.reduceSub, Nat.reduceLeDiff, Nat.reduceLT, Nat.reduceEqDiff, Nat.add_zero, Nat.zero_add, Nat.zero_le, ar_le, Nat.le_refl]
  | succ m ih =>
    intro i hi h a
    have i9 : i < 9 := by omega
    have c1 : ¬ 9 ≤ i := by omega
    have hc := q.c60 i i9
    obtain ⟨u1, u2, u3, u4, u5, u6⟩ := k7 i i9
    obtain ⟨w1, w2, w3, w4, w5, w6⟩ := j7 i i9
    have lh : LN h (d + 4 + 4 * i) (d + 5 + 4 * i) 60 (C i) := ⟨by rw [a.f.fk]; exact w3, by rw [a.f.fp]; exact w4, by rw [a.f.fk]; exact w5, by omega, by rw [a.f.fi _ (by omega)]; exact (t.cnt i i9).trans (q.ct i i9), hc, by omega⟩
    have x1 := t_Line_fill (h := h) (a := b + 4 + 4 * i) (b := b + 5 + 4 * i) (by rw [a.f.fk]; exact u3) (by rw [a.f.fp]; exact u4) (by rw [a.f.fk]; exact u5) (by omega) (by omega) lh hc (by omega) (by omega)
    generalize hh1 : uA (uI h (b + 4 + 4 * i) 1 (nI (C i))) (b + 5 + 4 * i) (va_cpy (rI h (d + 5 + 4 * i)) (rI h (b + 5 + 4 * i)) 0 0 (C i)) = h1 at x1
    have f1 : FRD b (b + 53) h0 h1 := by rw [← hh1]; exact (a.f.tr (FRD.uI _ (by omega) (by omega) _ _)).tr (FRD.uA _ (by omega) (by omega) _)
    have r1 : ∀ z, ¬ z = b + 4 + 4 * i → ¬ z = b + 5 + 4 * i → rI h1 z = rI h z := fun z hq hq2 => by rw [← hh1, rI_uA, if_neg hq2, rI_uI, if_neg hq]
    have e3 : rI h1 (d + 3 + 4 * i) = rI h0 (d + 3 + 4 * i) := f1.fi _ (by omega)
    generalize hh2 : uI h1 (b + 3 + 4 * i) 1 (rI h0 (d + 3 + 4 * i) 1) = h2
    have xr : ∀ Q, pGo 70 0 [some (.ref (b + 3 + 4 * i)), some (.ref (d + 3 + 4 * i))] [] h Q = Q (none, h2) := fun Q => by
      simp only [k70_0, k70_1, k70_4, k70_5, k70_8, k70_11, k70_12, k70_13, k70_16, k70_19, x1, e3, hh2, if_true, if_false, ite_true, ite_false, not_true_eq_false, not_false_eq_true, true_or, or_true, false_or, or_false, and_self, ok_n0, ok_ni, ok_nr, ok_nl, va_rf_some, va_rf_none, true_and, and_true, List.length_nil, List.length_cons, Option.toList_some, Option.toList_none, List.cons_append, List.nil_append, rK_uA, rK_uI, rK_uJ, rK_uP, rP_uA, rP_uI, rP_uJ, rJ_uA, rJ_uI, rJ_uP, rI_uJ, rI_uP, rz_uA, rz_uI, rz_uJ, rz_uP, rs_uA, rs_uI, rs_uJ, rs_uP, Nat.reduceAdd, Nat.reduceMul, Nat.reduceSub, Nat.reduceLeDiff, Nat.reduceLT, Nat.reduceEqDiff, Nat.add_zero, Nat.zero_add, Nat.zero_le, u1, u2, u3, w1, w2, w3, a.f.fk, a.f.fp, f1.fk, f1.fp]
    have f2 : FRD b (b + 53) h0 h2 := by rw [← hh2]; exact f1.tr (FRD.uI _ (by omega) (by omega) _ _)
    have r2 : ∀ z, ¬ z = b + 3 + 4 * i → rI h2 z = rI h1 z := fun z hq => by rw [← hh2, rI_uI, if_neg hq]
    have x3 := s_Layout_fill (h := h2) (a := b + 6 + 4 * i) (a2 := d + 6 + 4 * i) (by rw [f2.fk]; exact u6) (by rw [f2.fk]; exact w6) (by omega)
    rw [f2.fi (d + 6 + 4 * i) (by omega)] at x3
    generalize hh3 : uA h2 (b + 6 + 4 * i) (upd (upd (upd (rI h2 (b + 6 + 4 * i)) 0 (rI h0 (d + 6 + 4 * i) 0)) 1 (rI h0 (d + 6 + 4 * i) 1)) 2 (rI h0 (d + 6 + 4 * i) 2)) = h3 at x3
    have f3 : FRD b (b + 53) h0 h3 := by rw [← hh3]; exact f2.tr (FRD.uA _ (by omega) (by omega) _)
    have r3 : ∀ z, ¬ z = b + 6 + 4 * i → rI h3 z = rI h2 z := fun z hq => by rw [← hh3, rI_uA, if_neg hq]
    have ro : ∀ j x, ¬ j = i → 3 ≤ x → x < 7 → rI h3 (b + x + 4 * j) = rI h (b + x + 4 * j) := fun j x hj hx1 hx2 => by
      rw [r3 _ (by omega), r2 _ (by omega), r1 _ (by omega) (by omega)]
    have a' : FL h0 h3 b d C (i + 1) := by
      refine ⟨f3, fun j hj => ?_, fun j hj => ?_, fun j k hj hk => ?_, fun j cc hj hcc => ?_⟩
      · by_cases e : j = i
        · subst e; rw [r3 _ (by omega), r2 _ (by omega), ← hh1, rI_uA, if_neg (by omega), rI_uI, if_pos rfl, pk_us]
          exact ((t.cnt j i9).trans (q.ct j i9)).symm
        · rw [ro j 4 e (by omega) (by omega)]; exact a.ct j (by omega)
      · by_cases e : j = i
        · subst e; rw [r3 _ (by omega), ← hh2, rI_uI, if_pos rfl, pk_us]
        · rw [ro j 3 e (by omega) (by omega)]; exact a.fo j (by omega)
      · by_cases e : j = i
        · subst e; rw [r3 _ (by omega), r2 _ (by omega), ← hh1, rI_uA, if_pos rfl, cpy_in _ _ hk, a.f.fi _ (by omega)]
        · rw [ro j 5 e (by omega) (by omega)]; exact a.od j k (by omega) hk
      · by_cases e : j = i
        · subst e; rw [← hh3, rI_uA, if_pos rfl, upd_at, upd_at, upd_at]
          rcases (show cc = 0 ∨ cc = 1 ∨ cc = 2 by omega) with rfl | rfl | rfl
          · rw [if_neg (by omega), if_neg (by omega), if_pos rfl]
          · rw [if_neg (by omega), if_pos rfl]
          · rw [if_pos rfl]
        · rw [ro j 6 e (by omega) (by omega)]; exact a.ly j cc (by omega) hcc
    obtain ⟨h', b', o', e⟩ := ih (i + 1) (by omega) _ a'
    refine ⟨h', b', fun z hz => by rw [o' z hz, r3 _ (by omega), r2 _ (by omega), r1 _ (by omega) (by omega)], fun Q => ?_⟩
    rw [← e Q, k28_2]
    simp (disch := omega) only [k28_0, k28_1, k28_3, k28_5, k28_8, k28_9, k28_12, k28_13, k28_14, k28_15, k28_18, k28_19, k28_20, k28_23, k28_24, k28_27, k28_28, k28_29, k28_30, k28_33, k28_34, k28_35, k28_38, k28_41, k28_45, k28_48, k28_49, k28_52, k28_55, k28_56, k28_59, k28_60, k28_63, k28_66, k28_67, k28_70, k28_71, k28_72, k28_75, k28_76, k28_78, k28_81, xr, x3, if_true, if_false, ite_true, ite_false, not_true_eq_false, not_false_eq_true, true_or, or_true, false_or, or_false, and_self, ok_n0, ok_ni, ok_nr, ok_nl, va_rf_some, va_rf_none, true_and, and_true, List.length_nil, List.length_cons, Option.toList_some, Option.toList_none, List.cons_append, List.nil_append, rK_uA, rK_uI, rK_uJ, rK_uP, rP_uA, rP_uI, rP_uJ, rJ_uA, rJ_uI, rJ_uP, rI_uJ, rI_uP, rz_uA, rz_uI, rz_uJ, rz_uP, rs_uA, rs_uI, rs_uJ, rs_uP, Nat.reduceAdd, Nat.reduceMul, Nat.reduceSub, Nat.reduceLeDiff, Nat.reduceLT, Nat.reduceEqDiff, Nat.add_zero, Nat.zero_add, Nat.zero_le, k0, k1, k2, k3, k4, k5 i i9, k6 i i9, j0, j1, j2, j3, j4, j5 i i9, j6 i i9, u1, u6, w1, w6, a.f.fk, a.f.fp, f2.fk, f2.fp, f3.fk, f3.fp, ar_le, ar_add, ar_okr, ar_cl, c1, i9]
theorem fill_all (t : DV h0 d v n C H) (K : DK h0 b) (s : SI v n c p lo r rl) (q : RI v C H P) (ob : b + 53 ≤ d ∨ d + 53 ≤ b) : ∃ h', (∀ Q, pGo 28 0 [some (.ref b), some (.ref d), none] [] h0 Q = Q (none, h')) ∧ DV h' b v n C H ∧ FRD b (b + 53) h0 h' := by
  obtain ⟨k0, k1, k2, k3, k4, k5, k6, k7, k8, k9, k10, k11, k12, k13⟩ := id K
  obtain ⟨j0, j1, j2, j3, j4, j5, j6, j7, j8, j9, j10, j11, j12, j13⟩ := id t.k
  have n4 := s.n4
  obtain ⟨h1, a1, o1, e1⟩ := fill_loop t K q ob 9 0 (by omega) h0 ⟨FRD.rf _ _ _, fun j hj => absurd hj (by omega), fun j hj => absurd hj (by omega), fun j k hj => absurd hj (by omega), fun j c hj => absurd hj (by omega)⟩
  have f1 := a1.f
  have D1 : DVS h1 d v n := by
    have T := t.cg f1.fk f1.fp (fun z h1 h2 => f1.fi z (by omega)) (f1.fj _ (by omega)) n4
    exact T.dvs
  have K1 : SCK h1 (b + 39) := by
    have := k9
    unfold SCK at *
    rw [f1.fk, f1.fp]; exact this
  obtain ⟨h2, a2, e2⟩ := scfill D1 K1 s ob
  have f2 : FRD b (b + 53) h0 h2 := f1.tr (a2.f.mono (by omega) (by omega))
  have x3 := s_Floats_fill (h := h2) (a := b + 50) (b := b + 51) (a2 := d + 50) (b2 := d + 51) (by unfold FLT at *; rw [f2.fk, f2.fp]; exact k11) (by unfold FLT at *; rw [f2.fk, f2.fp]; exact j11)
  rw [f2.fj (d + 50) (by omega), f2.fi (d + 51) (by omega)] at x3
  generalize hh3 : uA (uJ h2 (b + 50) 0 (rJ h0 (d + 50) 0)) (b + 51) (va_cpy (rI h0 (d + 51)) (rI h2 (b + 51)) 0 0 240) = h3 at x3
  have f3 : FRD b (b + 53) h0 h3 := by rw [← hh3]; exact (f2.tr (FRD.uJ _ (by omega) (by omega) _ _)).tr (FRD.uA _ (by omega) (by omega) _)
  have r3 : ∀ z, ¬ z = b + 51 → rI h3 z = rI h2 z := fun z hq => by rw [← hh3, rI_uA, if_neg hq, rI_uJ]
  have e52 : rI h3 (d + 52) = rI h0 (d + 52) := f3.fi _ (by omega)
  generalize hh4 : uA h3 (b + 52) (va_cpy (rI h0 (d + 52)) (rI h3 (b + 52)) 0 0 60) = h4
  have f4 : FRD b (b + 53) h0 h4 := by rw [← hh4]; exact f3.tr (FRD.uA _ (by omega) (by omega) _)
  have r4 : ∀ z, ¬ z = b + 52 → rI h4 z = rI h3 z := fun z hq => by rw [← hh4, rI_uA, if_neg hq]
  refine ⟨h4, fun Q => ?_, ?_, f4⟩
  · rw [k28_0]
    simp only [k28_1, if_true, if_false, ite_true, ite_false, not_true_eq_false, not_false_eq_true, true_or, or_true, false_or, or_false, and_self, ok_n0, ok_ni, ok_nr, ok_nl, va_rf_some, va_rf_none, true_and, and_true, List.length_nil, List.length_cons, Option.toList_some, Option.toList_none, List.cons_append, List.nil_append, rK_uA, rK_uI, rK_uJ, rK_uP, rP_uA, rP_uI, rP_uJ, rJ_uA, rJ_uI, rJ_uP, rI_uJ, rI_uP, rz_uA, rz_uI, rz_uJ, rz_uP, rs_uA, rs_uI, rs_uJ, rs_uP, Nat.reduceAdd, Nat.reduceMul, Nat.reduceSub, Nat.reduceLeDiff, Nat.reduceLT, Nat.reduceEqDiff, Nat.add_zero, Nat.zero_add, Nat.zero_le]
    rw [e1 Q, k28_44]
    simp (disch := omega) only [k28_1, k28_3, k28_5, k28_8, k28_9, k28_12, k28_13, k28_14, k28_15, k28_18, k28_19, k28_20, k28_23, k28_24, k28_27, k28_28, k28_29, k28_30, k28_33, k28_34, k28_35, k28_38, k28_41, k28_45, k28_48, k28_49, k28_52, k28_55, k28_56, k28_59, k28_60, k28_63, k28_66, k28_67, k28_70, k28_71, k28_72, k28_75, k28_76, k28_78, k28_81, e2, x3, if_true, if_false, ite_true, ite_false, not_true_eq_false, not_false_eq_true, true_or, or_true, false_or, or_false, and_self, ok_n0, ok_ni, ok_nr, ok_nl, va_rf_some, va_rf_none, true_and, and_true, List.length_nil, List.length_cons, Option.toList_some, Option.toList_none, List.cons_append, List.nil_append, rK_uA, rK_uI, rK_uJ, rK_uP, rP_uA, rP_uI, rP_uJ, rJ_uA, rJ_uI, rJ_uP, rI_uJ, rI_uP, rz_uA, rz_uI, rz_uJ, rz_uP, rs_uA, rs_uI, rs_uJ, rs_uP, Nat.reduceAdd, Nat.reduceMul, Nat.reduceSub, Nat.reduceLeDiff, Nat.reduceLT, Nat.reduceEqDiff, Nat.add_zero, Nat.zero_add, Nat.zero_le, k0, k8, k9.1, k10, k11.1, k12, k13, j0, j8, j10, j12, j13, f1.fk, f1.fp, f2.fk, f2.fp, f3.fk, f3.fp, e52, hh4, ar_n0, ar_cl]
  · have rr : ∀ z, b ≤ z → z < b + 39 → rI h4 z = rI h1 z := fun z h1 h2 => by rw [r4 _ (by omega), r3 _ (by omega), a2.f.fi _ (by omega)]
    have rs : ∀ z, b + 39 ≤ z → z < b + 50 → rI h4 z = rI h2 z := fun z h1 h2 => by rw [r4 _ (by omega), r3 _ (by omega)]
    refine ⟨K.cg f4.fk f4.fp, ?_, ?_, ?_, ?_, fun j hj => ?_, fun j c hj hc => ?_, fun k hk => ?_, fun k hk => ?_, fun i c hi hc => ?_, fun i hi => ?_, fun i hi => ?_, fun i k hi hk => ?_, fun w hw => ?_, fun w c hw hc => ?_, fun w => ?_⟩
    · rw [rs _ (by omega) (by omega), a2.many]; exact s.v0.symm
    · rw [rs _ (by omega) (by omega), a2.cur]; exact D1.cur
    · rw [rs _ (by omega) (by omega)]; exact a2.vsz
    · rw [rs _ (by omega) (by omega)]; exact a2.hsz
    · rw [rs _ (by omega) (by omega), a2.ws j hj]; exact D1.ws j hj
    · rw [rs _ (by omega) (by omega), a2.bx j c hj hc]; exact D1.bx j c hj hc
    · rw [rs _ (by omega) (by omega), a2.vis k hk]; exact D1.vis k hk
    · rw [rs _ (by omega) (by omega), a2.hid k hk]; exact D1.hid k hk
    · rw [rr _ (by omega) (by omega), a1.ly i c hi hc]; exact t.lay i c hi hc
    · rw [rr _ (by omega) (by omega), a1.ct i hi]; exact t.cnt i hi
    · rw [rr _ (by omega) (by omega), a1.fo i hi]; exact t.foc i hi
    · rw [rr _ (by omega) (by omega), a1.od i k hi hk]; exact t.ord i k hi hk
    · rw [← hh4, rI_uA, if_pos rfl, cpy_in _ _ hw]; exact t.hom w hw
    · rw [r4 _ (by omega), ← hh3, rI_uA, if_pos rfl, cpy_in _ _ (by omega)]; exact t.shr w c hw hc
    · rw [← hh4, rJ_uA, ← hh3, rJ_uA, rJ_uJ, if_pos rfl]
      simp only [vp_updL, if_true]
      exact t.bit w
end FILL
