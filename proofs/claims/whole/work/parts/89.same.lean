/-! ARE TWO DESKS THE SAME -/
def allB (f : Nat → Bool) : Nat → Nat → Bool
  | 0, _ => true
  | m + 1, i => if f i = true then allB f m (i + 1) else false
theorem allB_iff (f : Nat → Bool) : ∀ (m i : Nat), allB f m i = true ↔ ∀ k, i ≤ k → k < i + m → f k = true := by
  intro m
  induction m with
  | zero => intro i; simp only [allB, true_iff]; intro k h1 h2; omega
  | succ m ih =>
    intro i
    rw [allB]
    by_cases h : f i = true
    · rw [if_pos h, ih]
      constructor
      · intro q k h1 h2
        by_cases hk : k = i
        · rw [hk]; exact h
        · exact q k (by omega) (by omega)
      · intro q k h1 h2
        exact q k (by omega) (by omega)
    · rw [if_neg h]
      simp only [Bool.false_eq_true, false_iff]
      intro q
      exact h (q i (by omega) (by omega))
theorem sceq_iff (B B2 : Nat → Nat → Int32) (W W2 : Nat → Int32) : ∀ (m i : Nat), sceq B B2 W W2 m i = true ↔ ∀ k, i ≤ k → k < i + m → W k = W2 k ∧ ∀ c, c < 4 → B k c = B2 k c := by
  have b4 : ∀ f g : Nat → Int32, beq4 f g = true ↔ ∀ c, c < 4 → f c = g c := fun f g => by
    simp only [beq4, Bool.and_eq_true, decide_eq_true_eq]
    constructor
    · intro q c hc
      rcases (show c = 0 ∨ c = 1 ∨ c = 2 ∨ c = 3 by omega) with rfl | rfl | rfl | rfl
      · exact q.1
      · exact q.2.1
      · exact q.2.2.1
      · exact q.2.2.2
    · intro q
      exact ⟨q 0 (by omega), q 1 (by omega), q 2 (by omega), q 3 (by omega)⟩
  intro m
  induction m with
  | zero => intro i; simp only [sceq, true_iff]; intro k h1 h2; omega
  | succ m ih =>
    intro i
    rw [sceq]
    by_cases h : W i = W2 i ∧ beq4 (B i) (B2 i) = true
    · rw [if_pos h, ih]
      constructor
      · intro q k h1 h2
        by_cases hk : k = i
        · rw [hk]; exact ⟨h.1, (b4 _ _).mp h.2⟩
        · exact q k (by omega) (by omega)
      · intro q k h1 h2
        exact q k (by omega) (by omega)
    · rw [if_neg h]
      simp only [Bool.false_eq_true, false_iff]
      intro q
      have := q i (by omega) (by omega)
      exact h ⟨this.1, (b4 _ _).mpr this.2⟩
theorem s_Row_sameAs {r a b n s r2 a2 b2 n2 s2 : Nat} {h : pm_H} (w : RW h r a b n s) (w2 : RW h r2 a2 b2 n2 s2) (Q : Option Value × pm_H → Prop) : pGo 71 0 [some (.ref r), some (.ref r2)] [] h Q = Q (some (.int (nb (decide (rI h r 1 = rI h r2 1) && (decide (s = s2) && leq (rI h b) (rI h b2) s 0)))), h) := by
  obtain ⟨k1, k2, l, k3, k4⟩ := id w
  obtain ⟨j1, j2, l2, j3, j4⟩ := id w2
  simp only [k71_0, k71_1, k71_4, k71_5, k71_8, k71_11, k71_12, k71_15, k71_16, k71_19, k71_22, k71_25, k71_26, k71_29, k71_30, s_Line_sameAs l l2, if_true, if_false, ite_true, ite_false, not_true_eq_false, not_false_eq_true, true_or, or_true, false_or, or_false, and_self, ok_n0, ok_ni, ok_nr, ok_nl, va_rf_some, va_rf_none, true_and, and_true, List.length_nil, List.length_cons, Option.toList_some, Option.toList_none, List.cons_append, List.nil_append, rK_uA, rK_uI, rK_uJ, rK_uP, rP_uA, rP_uI, rP_uJ, rJ_uA, rJ_uI, rJ_uP, rI_uJ, rI_uP, rz_uA, rz_uI, rz_uJ, rz_uP, rs_uA, rs_uI, rs_uJ, rs_uP, Nat.reduceAdd, Nat.reduceMul, Nat.reduceSub, Nat.reduceLeDiff, Nat.reduceLT, Nat.reduceEqDiff, Nat.add_zero, Nat.zero_add, Nat.zero_le, k1, k2, l.1, j1, j2, l2.1, nb_0]
  by_cases h1 : rI h r 1 = rI h r2 1
  · cases hb : (decide (s = s2) && leq (rI h b) (rI h b2) s 0) with
    | true => simp only [h1, if_true, if_false, ite_true, ite_false, not_true_eq_false, not_false_eq_true, true_or, or_true, false_or, or_false, and_self, ok_n0, ok_ni, ok_nr, ok_nl, va_rf_some, va_rf_none, true_and, and_true, List.length_nil, List.length_cons, Option.toList_some, Option.toList_none, List.cons_append, List.nil_append, rK_uA, rK_uI, rK_uJ, rK_uP, rP_uA, rP_uI, rP_uJ, rJ_uA, rJ_uI, rJ_uP, rI_uJ, rI_uP, rz_uA, rz_uI, rz_uJ, rz_uP, rs_uA, rs_uI, rs_uJ, rs_uP, Nat.reduceAdd, Nat.reduceMul, Nat.reduceSub, Nat.reduceLeDiff, Nat.reduceLT, Nat.reduceEqDiff, Nat.add_zero, Nat.zero_add, Nat.zero_le, decide_true, Bool.true_and, nb_t, reduceCtorEq]
    | false => simp only [h1, if_true, if_false, ite_true, ite_false, not_true_eq_false, not_false_eq_true, true_or, or_true, false_or, or_false, and_self, ok_n0, ok_ni, ok_nr, ok_nl, va_rf_some, va_rf_none, true_and, and_true, List.length_nil, List.length_cons, Option.toList_some, Option.toList_none, List.cons_append, List.nil_append, rK_uA, rK_uI, rK_uJ, rK_uP, rP_uA, rP_uI, rP_uJ, rJ_uA, rJ_uI, rJ_uP, rI_uJ, rI_uP, rz_uA, rz_uI, rz_uJ, rz_uP, rs_uA, rs_uI, rs_uJ, rs_uP, Nat.reduceAdd, Nat.reduceMul, Nat.reduceSub, Nat.reduceLeDiff, Nat.reduceLT, Nat.reduceEqDiff, Nat.add_zero, Nat.zero_add, Nat.zero_le, decide_true, Bool.true_and, nb_f, reduceCtorEq]
  · simp only [h1, if_true, if_false, ite_true, ite_false, not_true_eq_false, not_false_eq_true, true_or, or_true, false_or, or_false, and_self, ok_n0, ok_ni, ok_nr, ok_nl, va_rf_some, va_rf_none, true_and, and_true, List.length_nil, List.length_cons, Option.toList_some, Option.toList_none, List.cons_append, List.nil_append, rK_uA, rK_uI, rK_uJ, rK_uP, rP_uA, rP_uI, rP_uJ, rJ_uA, rJ_uI, rJ_uP, rI_uJ, rI_uP, rz_uA, rz_uI, rz_uJ, rz_uP, rs_uA, rs_uI, rs_uJ, rs_uP, Nat.reduceAdd, Nat.reduceMul, Nat.reduceSub, Nat.reduceLeDiff, Nat.reduceLT, Nat.reduceEqDiff, Nat.add_zero, Nat.zero_add, Nat.zero_le, decide_false, Bool.false_and, nb_f]
/-- are row and layout i of two desks the same -/
def rwB (h : pm_H) (d e : Nat) (C C' : Nat → Nat) (i : Nat) : Bool := (decide (rI h (d + 3 + 4 * i) 1 = rI h (e + 3 + 4 * i) 1) && (decide (C i = C' i) && leq (rI h (d + 5 + 4 * i)) (rI h (e + 5 + 4 * i)) (C i) 0)) && (decide (rI h (d + 6 + 4 * i) 0 = rI h (e + 6 + 4 * i) 0) && (decide (rI h (d + 6 + 4 * i) 1 = rI h (e + 6 + 4 * i) 1) && decide (rI h (d + 6 + 4 * i) 2 = rI h (e + 6 + 4 * i) 2)))
section SAME
variable {v u : Nat → Int32} {n c n' c' : Nat} {p lo r rl C H P p' lo' r' rl' C' H' P' : Nat → Nat} {h : pm_H} {d e : Nat}
theorem same_loop {s1 s2 s3 s4 cu cu' : Nat} (t : DS h d C n cu s1 s2) (y : DS h e C' n' cu' s3 s4) (Q : Option Value × pm_H → Prop) : ∀ m i, i + m = 9 → pGo 29 2 [some (.ref d), some (.ref e), some (.int (nI i))] [] h Q = if allB (rwB h d e C C') m i = true then pGo 29 52 [some (.ref d), some (.ref e), some (.int (nI 9))] [] h Q else Q (some (.int (nI 0)), h) := by
  obtain ⟨⟨k0, k1, k2, k3, k4, k5, k6, k7, k8, k9, k10, k11, k12, k13⟩, -, -⟩ := id t
  obtain ⟨⟨j0, j1, j2, j3, j4, j5, j6, j7, j8, j9, j10, j11, j12, j13⟩, -, -⟩ := id y
  intro m
  induction m with
  | zero =>
    intro i hi
    have hi : i = 9 := by omega
    subst hi
    rw [k29_2]
    simp (disch := omega) only [k29_3, k29_5, if_true, if_false, ite_true, ite_false, not_true_eq_false, not_false_eq_true, true_or, or_true, false_or, or_false, and_self, ok_n0, ok_ni, ok_nr, ok_nl, va_rf_some, va_rf_none, true_and, and_true, List.length_nil, List.length_cons, Option.toList_some, Option.toList_none, List.cons_append, List.nil_append, rK_uA, rK_uI, rK_uJ, rK_uP, rP_uA, rP_uI, rP_uJ, rJ_uA, rJ_uI, rJ_uP, rI_uJ, rI_uP, rz_uA, rz_uI, rz_uJ, rz_uP, rs_uA, rs_uI, rs_uJ, rs_uP, Nat.reduceAdd, Nat.reduceMul, Nat.reduceSub, Nat.reduceLeDiff, Nat.reduceLT, Nat.reduceEqDiff, Nat.add_zero, Nat.zero_add, Nat.zero_le, ar_le, Nat.le_refl, allB]
  | succ m ih =>
    intro i hi
    have i9 : i < 9 := by omega
    have c1 : ¬ 9 ≤ i := by omega
    obtain ⟨u1, u2, u3, u4, u5, u6⟩ := k7 i i9
    obtain ⟨w1, w2, w3, w4, w5, w6⟩ := j7 i i9
    have x1 := s_Row_sameAs (t.row i9) (y.row i9)
    have x2 := s_Layout_sameAs u6 w6
    have ei := ih (i + 1) (by omega)
    rw [k29_2]
    rw [allB, rwB]
    generalize (decide (rI h (d + 3 + 4 * i) 1 = rI h (e + 3 + 4 * i) 1) && (decide (C i = C' i) && leq (rI h (d + 5 + 4 * i)) (rI h (e + 5 + 4 * i)) (C i) 0)) = b1 at x1 ⊢
    generalize (decide (rI h (d + 6 + 4 * i) 0 = rI h (e + 6 + 4 * i) 0) && (decide (rI h (d + 6 + 4 * i) 1 = rI h (e + 6 + 4 * i) 1) && decide (rI h (d + 6 + 4 * i) 2 = rI h (e + 6 + 4 * i) 2))) = b2 at x2 ⊢
    simp (disch := omega) only [k29_0, k29_1, k29_3, k29_5, k29_8, k29_9, k29_12, k29_13, k29_14, k29_15, k29_18, k29_19, k29_20, k29_23, k29_26, k29_27, k29_30, k29_31, k29_32, k29_33, k29_36, k29_37, k29_38, k29_41, k29_44, k29_45, k29_46, k29_49, k29_53, k29_56, k29_57, k29_60, k29_63, k29_66, k29_67, k29_70, k29_71, k29_74, k29_77, k29_80, k29_81, k29_84, k29_85, x1, x2, if_true, if_false, ite_true, ite_false, not_true_eq_false, not_false_eq_true, true_or, or_true, false_or, or_false, and_self, ok_n0, ok_ni, ok_nr, ok_nl, va_rf_some, va_rf_none, true_and, and_true, List.length_nil, List.length_cons, Option.toList_some, Option.toList_none, List.cons_append, List.nil_append, rK_uA, rK_uI, rK_uJ, rK_uP, rP_uA, rP_uI, rP_uJ, rJ_uA, rJ_uI, rJ_uP, rI_uJ, rI_uP, rz_uA, rz_uI, rz_uJ, rz_uP, rs_uA, rs_uI, rs_uJ, rs_uP, Nat.reduceAdd, Nat.reduceMul, Nat.reduceSub, Nat.reduceLeDiff, Nat.reduceLT, Nat.reduceEqDiff, Nat.add_zero, Nat.zero_add, Nat.zero_le, k0, k1, k2, k3, k4, k5 i i9, k6 i i9, j0, j1, j2, j3, j4, j5 i i9, j6 i i9, u1, u6, w1, w6, ar_le, ar_add, ar_okr, ar_cl, c1, i9, nb_0, ei]
    cases b1 <;> cases b2 <;> simp only [if_true, if_false, ite_true, ite_false, not_true_eq_false, not_false_eq_true, true_or, or_true, false_or, or_false, and_self, ok_n0, ok_ni, ok_nr, ok_nl, va_rf_some, va_rf_none, true_and, and_true, List.length_nil, List.length_cons, Option.toList_some, Option.toList_none, List.cons_append, List.nil_append, rK_uA, rK_uI, rK_uJ, rK_uP, rP_uA, rP_uI, rP_uJ, rJ_uA, rJ_uI, rJ_uP, rI_uJ, rI_uP, rz_uA, rz_uI, rz_uJ, rz_uP, rs_uA, rs_uI, rs_uJ, rs_uP, Nat.reduceAdd, Nat.reduceMul, Nat.reduceSub, Nat.reduceLeDiff, Nat.reduceLT, Nat.reduceEqDiff, Nat.add_zero, Nat.zero_add, Nat.zero_le, reduceCtorEq, Bool.false_and, Bool.true_and, Bool.and_false]
theorem lget_all {f g : Nat → Int32} {m : Nat} : leq f g m 0 = true ↔ ∀ k, k < m → f k = g k := by
  rw [leq_iff]
  exact ⟨fun q k hk => q k (by omega) (by omega), fun q k _ hk => q k (by omega)⟩
theorem rwB_iff (t : DV h d v n C H) (y : DV h e u n' C' H') (q : RI v C H P) (q' : RI u C' H' P') {i : Nat} (hi : i < 9) : rwB h d e C C' i = true ↔ ∀ x, x < 65 → v (35 + 65 * i + x) = u (35 + 65 * i + x) := by
  have hc := q.c60 i hi
  have hc' := q'.c60 i hi
  simp only [rwB, Bool.and_eq_true, decide_eq_true_eq, lget_all]
  rw [t.foc i hi, y.foc i hi, t.lay i 0 hi (by omega), y.lay i 0 hi (by omega), t.lay i 1 hi (by omega), y.lay i 1 hi (by omega), t.lay i 2 hi (by omega), y.lay i 2 hi (by omega)]
  constructor
  · rintro ⟨⟨a1, a2, a3⟩, a4, a5, a6⟩ x hx
    by_cases x0 : x < 3
    · rcases (show x = 0 ∨ x = 1 ∨ x = 2 by omega) with rfl | rfl | rfl
      · exact a4
      · exact a5
      · exact a6
    · by_cases x3 : x = 3
      · subst x3; rw [q.ct i hi, q'.ct i hi, a2]
      · by_cases x4 : x = 4
        · subst x4; exact a1
        · have e : 35 + 65 * i + x = 35 + 65 * i + 5 + (x - 5) := by omega
          rw [e]
          by_cases xc : x - 5 < C i
          · have := a3 (x - 5) xc
            rw [t.ord i _ hi xc, y.ord i _ hi (by omega)] at this
            exact this
          · rw [q.zo i _ hi (by omega) (by omega), q'.zo i _ hi (by omega) (by omega)]
  · intro a
    have a3 := a 3 (by omega)
    rw [q.ct i hi, q'.ct i hi] at a3
    have e := nI_inj (by omega) (by omega) a3
    refine ⟨⟨a 4 (by omega), e, fun k hk => ?_⟩, a 0 (by omega), a 1 (by omega), a 2 (by omega)⟩
    rw [t.ord i k hi hk, y.ord i k hi (by omega), Nat.add_assoc]
    exact a (5 + k) (by omega)
/-- the screens' cells -/
theorem scB_iff (t : DV h d v n C H) (y : DV h e u n' C' H') (s : SI v n c p lo r rl) (s' : SI u n' c' p' lo' r' rl') : (decide (n = n' ∧ c = c') && (sceq (fun j => rI h (d + 39 + 2 + j)) (fun j => rI h (e + 39 + 2 + j)) (rI h (d + 39 + 6)) (rI h (e + 39 + 6)) n 0 && ((decide (n - 1 = n' - 1) && leq (rI h (d + 39 + 8)) (rI h (e + 39 + 8)) (n - 1) 0) && (decide (9 - n = 9 - n') && leq (rI h (d + 39 + 10)) (rI h (e + 39 + 10)) (9 - n) 0)))) = true ↔ ∀ x, x < 35 → v x = u x := by
  have n4 := s.n4
  have n1 := s.n1
  have n4' := s'.n4
  have cn := s.cn
  have cn' := s'.cn
  simp only [Bool.and_eq_true, decide_eq_true_eq, lget_all, sceq_iff]
  constructor
  · rintro ⟨⟨rfl, rfl⟩, a1, ⟨-, a2⟩, -, a3⟩ x hx
    have b1 : ∀ j, j < n → v (21 + j) = u (21 + j) := fun j hj => by
      have := (a1 j (by omega) (by omega)).1
      rw [t.ws j hj, y.ws j hj] at this; exact this
    have b2 : ∀ j cc, j < n → cc < 4 → v (5 + 4 * j + cc) = u (5 + 4 * j + cc) := fun j cc hj hc => by
      have := (a1 j (by omega) (by omega)).2 cc hc
      rw [t.bx j cc hj hc, y.bx j cc hj hc] at this; exact this
    by_cases x0 : x = 0
    · rw [x0, s.v0, s'.v0]
    · by_cases x1 : x = 1
      · rw [x1, s.v1, s'.v1]
      · by_cases x5 : x < 5
        · have e : x = 2 + (x - 2) := by omega
          rw [e]
          by_cases z : x - 2 < n - 1
          · have := a2 _ z
            rw [t.vis _ z, y.vis _ z] at this; exact this
          · rw [s.zv _ (by omega) (by omega), s'.zv _ (by omega) (by omega)]
        · by_cases x21 : x < 21
          · by_cases z : x - 5 < 4 * n
            · have := b2 ((x - 5) / 4) ((x - 5) % 4) (by omega) (by omega)
              have e : 5 + 4 * ((x - 5) / 4) + (x - 5) % 4 = x := by omega
              rw [e] at this; exact this
            · have e : x = 5 + (x - 5) := by omega
              rw [e, s.zb _ (by omega) (by omega), s'.zb _ (by omega) (by omega)]
          · by_cases x25 : x < 25
            · have e : x = 21 + (x - 21) := by omega
              rw [e]
              by_cases z : x - 21 < n
              · exact b1 _ z
              · rw [s.zs _ (by omega) (by omega), s'.zs _ (by omega) (by omega)]
            · by_cases y25 : x = 25
              · rw [y25, s.v25, s'.v25]
              · have e : x = 26 + (x - 26) := by omega
                rw [e]
                by_cases z : x - 26 < 9 - n
                · have := a3 _ z
                  rw [t.hid _ z, y.hid _ z] at this; exact this
                · rw [s.zh _ (by omega) (by omega), s'.zh _ (by omega) (by omega)]
  · intro a
    have a0 := a 0 (by omega)
    rw [s.v0, s'.v0] at a0
    have e := nI_inj (by omega) (by omega) a0
    subst e
    have a1 := a 1 (by omega)
    rw [s.v1, s'.v1] at a1
    have e := nI_inj (by omega) (by omega) a1
    refine ⟨⟨rfl, e⟩, fun k _ hk => ⟨?_, fun cc hc => ?_⟩, ⟨rfl, fun k hk => ?_⟩, rfl, fun k hk => ?_⟩
    · rw [t.ws k (by omega), y.ws k (by omega)]; exact a _ (by omega)
    · rw [t.bx k cc (by omega) hc, y.bx k cc (by omega) hc]; exact a _ (by omega)
    · rw [t.vis k hk, y.vis k hk]; exact a _ (by omega)
    · rw [t.hid k hk, y.hid k hk]; exact a _ (by omega)
theorem flB_iff (t : DV h d v n C H) (y : DV h e u n' C' H') (q : RI v C H P) (q' : RI u C' H' P') : (decide (rJ h (d + 50) 0 = rJ h (e + 50) 0) && leq (rI h (d + 51)) (rI h (e + 51)) 240 0) = true ↔ ∀ w x, w < 60 → 1 ≤ x → x < 6 → v (620 + 6 * w + x) = u (620 + 6 * w + x) := by
  simp only [Bool.and_eq_true, decide_eq_true_eq, lget_all]
  constructor
  · rintro ⟨a1, a2⟩ w x hw h1 h2
    by_cases x1 : x = 1
    · subst x1
      have b := t.bit w
      have b' := y.bit w
      rw [a1, b'] at b
      have e : (u (620 + 6 * w + 1) = nI 1) ↔ (v (620 + 6 * w + 1) = nI 1) := by
        have := decide_eq_decide.mp b
        constructor
        · intro z; exact (this.mp ⟨hw, z⟩).2
        · intro z; exact (this.mpr ⟨hw, z⟩).2
      rcases q.fl w hw with ⟨z, -⟩ | ⟨z, -⟩
      · rcases q'.fl w hw with ⟨z', -⟩ | ⟨z', -⟩
        · rw [z, z']
        · rw [e.mp z', z']
      · rw [z, e.mpr z]
    · have := a2 (w * 4 + (x - 2)) (by omega)
      rw [t.shr w _ hw (by omega), y.shr w _ hw (by omega), show 620 + 6 * w + 2 + (x - 2) = 620 + 6 * w + x by omega] at this
      exact this
  · intro a
    refine ⟨i64_ext (fun j => ?_), fun k hk => ?_⟩
    · rw [t.bit j, y.bit j]
      by_cases hj : j < 60
      · rw [a j 1 hj (by omega) (by omega)]
      · simp [hj]
    · have h1 := t.shr (k / 4) (k % 4) (by omega) (by omega)
      have h2 := y.shr (k / 4) (k % 4) (by omega) (by omega)
      rw [show k / 4 * 4 + k % 4 = k by omega] at h1 h2
      rw [h1, h2, Nat.add_assoc]
      exact a _ _ (by omega) (by omega) (by omega)
theorem seat_eq (q : RI v C H P) (q' : RI u C' H' P') (a : ∀ i x, i < 9 → x < 65 → v (35 + 65 * i + x) = u (35 + 65 * i + x)) {w : Nat} (hw : w < 60) (ht : v (620 + 6 * w) = nI 1) : u (620 + 6 * w) = nI 1 := by
  obtain ⟨g1, g2, g3⟩ := q.hp w hw ht
  have hc := q.c60 _ g1
  have b := a (H w) 3 g1 (by omega)
  rw [q.ct _ g1, q'.ct _ g1] at b
  have hc' := q'.c60 _ g1
  have b := nI_inj (by omega) (by omega) b
  have o := q'.od (H w) (P w) g1 (by omega)
  have z : wV u (H w) (P w) = w := by
    have : wV u (H w) (P w) = wV v (H w) (P w) := by
      simp only [wV]
      rw [Nat.add_assoc, a (H w) (5 + P w) g1 (by omega)]
    rw [this, g3]
  rw [z] at o
  exact o.2.2.1
theorem same_all (t : DV h d v n C H) (y : DV h e u n' C' H') (s : SI v n c p lo r rl) (s' : SI u n' c' p' lo' r' rl') (q : RI v C H P) (q' : RI u C' H' P') (Q : Option Value × pm_H → Prop) : pGo 29 0 [some (.ref d), some (.ref e), none] [] h Q = Q (some (.int (nb (leq v u 980 0))), h) := by
  have ds := t.ds s q
  have ds' := y.ds s' q'
  obtain ⟨k0, k1, k2, k3, k4, k5, k6, k7, k8, k9, k10, k11, k12, k13⟩ := id t.k
  obtain ⟨j0, j1, j2, j3, j4, j5, j6, j7, j8, j9, j10, j11, j12, j13⟩ := id y.k
  have l := same_loop ds ds' Q 9 0 (by omega)
  have x1 := s_Screens_sameAs ds.2.2 ds'.2.2
  have i1 := scB_iff t y s s'
  have x2 := s_Floats_sameAs k11 j11
  have i2 := flB_iff t y q q'
  have i0 : allB (rwB h d e C C') 9 0 = true ↔ ∀ i x, i < 9 → x < 65 → v (35 + 65 * i + x) = u (35 + 65 * i + x) := by
    rw [allB_iff]
    constructor
    · intro a i x hi hx
      exact (rwB_iff t y q q' hi).mp (a i (by omega) (by omega)) x hx
    · intro a k _ hk
      exact (rwB_iff t y q q' (by omega)).mpr (fun x hx => a k x (by omega) hx)
  generalize allB (rwB h d e C C') 9 0 = b0 at l i0
  generalize (decide (n = n' ∧ c = c') && (sceq (fun j => rI h (d + 39 + 2 + j)) (fun j => rI h (e + 39 + 2 + j)) (rI h (d + 39 + 6)) (rI h (e + 39 + 6)) n 0 && ((decide (n - 1 = n' - 1) && leq (rI h (d + 39 + 8)) (rI h (e + 39 + 8)) (n - 1) 0) && (decide (9 - n = 9 - n') && leq (rI h (d + 39 + 10)) (rI h (e + 39 + 10)) (9 - n) 0)))) = b1 at x1 i1
  generalize (decide (rJ h (d + 50) 0 = rJ h (e + 50) 0) && leq (rI h (d + 51)) (rI h (e + 51)) 240 0) = b2 at x2 i2
  have key : leq v u 980 0 = (b0 && (b1 && b2)) := by
    rw [Bool.eq_iff_iff, lget_all, Bool.and_eq_true, Bool.and_eq_true, i0, i1, i2]
    constructor
    · intro a
      exact ⟨fun i x h1 h2 => a _ (by omega), fun x hx => a x (by omega), fun w x h1 h2 h3 => a _ (by omega)⟩
    · rintro ⟨a0, a1, a2⟩ k hk
      by_cases z : k < 35
      · exact a1 k z
      · by_cases z2 : k < 620
        · have := a0 ((k - 35) / 65) ((k - 35) % 65) (by omega) (by omega)
          rw [show 35 + 65 * ((k - 35) / 65) + (k - 35) % 65 = k by omega] at this
          exact this
        · by_cases z3 : (k - 620) % 6 = 0
          · have e1 : k = 620 + 6 * ((k - 620) / 6) := by omega
            have hw : (k - 620) / 6 < 60 := by omega
            rw [e1]
            rcases q.th _ hw with z4 | z4
            · rcases q'.th _ hw with z5 | z5
              · rw [z4, z5]
              · exact (seat_eq q' q (fun i x h1 h2 => (a0 i x h1 h2).symm) hw z5).trans z5.symm
            · rw [z4, seat_eq q q' a0 hw z4]
          · have := a2 ((k - 620) / 6) ((k - 620) % 6) (by omega) (by omega) (by omega)
            rw [show 620 + 6 * ((k - 620) / 6) + (k - 620) % 6 = k by omega] at this
            exact this
  rw [k29_0]
  simp only [k29_1, if_true, if_false, ite_true, ite_false, not_true_eq_false, not_false_eq_true, true_or, or_true, false_or, or_false, and_self, ok_n0, ok_ni, ok_nr, ok_nl, va_rf_some, va_rf_none, true_and, and_true, List.length_nil, List.length_cons, Option.toList_some, Option.toList_none, List.cons_append, List.nil_append, rK_uA, rK_uI, rK_uJ, rK_uP, rP_uA, rP_uI, rP_uJ, rJ_uA, rJ_uI, rJ_uP, rI_uJ, rI_uP, rz_uA, rz_uI, rz_uJ, rz_uP, rs_uA, rs_uI, rs_uJ, rs_uP, Nat.reduceAdd, Nat.reduceMul, Nat.reduceSub, Nat.reduceLeDiff, Nat.reduceLT, Nat.reduceEqDiff, Nat.add_zero, Nat.zero_add, Nat.zero_le]
  rw [l, key]
  cases b0 with
  | false => simp only [if_true, if_false, ite_true, ite_false, not_true_eq_false, not_false_eq_true, true_or, or_true, false_or, or_false, and_self, ok_n0, ok_ni, ok_nr, ok_nl, va_rf_some, va_rf_none, true_and, and_true, List.length_nil, List.length_cons, Option.toList_some, Option.toList_none, List.cons_append, List.nil_append, rK_uA, rK_uI, rK_uJ, rK_uP, rP_uA, rP_uI, rP_uJ, rJ_uA, rJ_uI, rJ_uP, rI_uJ, rI_uP, rz_uA, rz_uI, rz_uJ, rz_uP, rs_uA, rs_uI, rs_uJ, rs_uP, Nat.reduceAdd, Nat.reduceMul, Nat.reduceSub, Nat.reduceLeDiff, Nat.reduceLT, Nat.reduceEqDiff, Nat.add_zero, Nat.zero_add, Nat.zero_le, reduceCtorEq, Bool.false_and, nb_f]
  | true =>
    simp only [if_true, if_false, ite_true, ite_false, not_true_eq_false, not_false_eq_true, true_or, or_true, false_or, or_false, and_self, ok_n0, ok_ni, ok_nr, ok_nl, va_rf_some, va_rf_none, true_and, and_true, List.length_nil, List.length_cons, Option.toList_some, Option.toList_none, List.cons_append, List.nil_append, rK_uA, rK_uI, rK_uJ, rK_uP, rP_uA, rP_uI, rP_uJ, rJ_uA, rJ_uI, rJ_uP, rI_uJ, rI_uP, rz_uA, rz_uI, rz_uJ, rz_uP, rs_uA, rs_uI, rs_uJ, rs_uP, Nat.reduceAdd, Nat.reduceMul, Nat.reduceSub, Nat.reduceLeDiff, Nat.reduceLT, Nat.reduceEqDiff, Nat.add_zero, Nat.zero_add, Nat.zero_le, Bool.true_and]
    rw [k29_52]
    simp (disch := omega) only [k29_1, k29_3, k29_5, k29_8, k29_9, k29_12, k29_13, k29_14, k29_15, k29_18, k29_19, k29_20, k29_23, k29_26, k29_27, k29_30, k29_31, k29_32, k29_33, k29_36, k29_37, k29_38, k29_41, k29_44, k29_45, k29_46, k29_49, k29_53, k29_56, k29_57, k29_60, k29_63, k29_66, k29_67, k29_70, k29_71, k29_74, k29_77, k29_80, k29_81, k29_84, k29_85, x1, x2, if_true, if_false, ite_true, ite_false, not_true_eq_false, not_false_eq_true, true_or, or_true, false_or, or_false, and_self, ok_n0, ok_ni, ok_nr, ok_nl, va_rf_some, va_rf_none, true_and, and_true, List.length_nil, List.length_cons, Option.toList_some, Option.toList_none, List.cons_append, List.nil_append, rK_uA, rK_uI, rK_uJ, rK_uP, rP_uA, rP_uI, rP_uJ, rJ_uA, rJ_uI, rJ_uP, rI_uJ, rI_uP, rz_uA, rz_uI, rz_uJ, rz_uP, rs_uA, rs_uI, rs_uJ, rs_uP, Nat.reduceAdd, Nat.reduceMul, Nat.reduceSub, Nat.reduceLeDiff, Nat.reduceLT, Nat.reduceEqDiff, Nat.add_zero, Nat.zero_add, Nat.zero_le, k0, k8, k9.1, k10, k11.1, j0, j8, j10, nb_0]
    cases b1 <;> cases b2 <;> simp only [if_true, if_false, ite_true, ite_false, not_true_eq_false, not_false_eq_true, true_or, or_true, false_or, or_false, and_self, ok_n0, ok_ni, ok_nr, ok_nl, va_rf_some, va_rf_none, true_and, and_true, List.length_nil, List.length_cons, Option.toList_some, Option.toList_none, List.cons_append, List.nil_append, rK_uA, rK_uI, rK_uJ, rK_uP, rP_uA, rP_uI, rP_uJ, rJ_uA, rJ_uI, rJ_uP, rI_uJ, rI_uP, rz_uA, rz_uI, rz_uJ, rz_uP, rs_uA, rs_uI, rs_uJ, rs_uP, Nat.reduceAdd, Nat.reduceMul, Nat.reduceSub, Nat.reduceLeDiff, Nat.reduceLT, Nat.reduceEqDiff, Nat.add_zero, Nat.zero_add, Nat.zero_le, reduceCtorEq, Bool.false_and, Bool.true_and, nb_f, nb_t]
end SAME
