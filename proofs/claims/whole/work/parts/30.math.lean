/-! ARITHMETIC OF SMALL NUMBERS, FOR simp (disch := omega) -/
theorem ar_cl {n : Nat} (h : n < 2147483648) : (nI n).toNatClampNeg = n := nI_clamp h
theorem ar_n0 {n : Nat} (h : n < 2147483648) : (nI n < 0) = False := eq_false (nI_pos h)
theorem ar_lt {a b : Nat} (ha : a < 2147483648) (hb : b < 2147483648) : (nI a < nI b) = (a < b) := propext (nI_ltI ha hb)
theorem ar_le {a b : Nat} (ha : a < 2147483648) (hb : b < 2147483648) : (nI a ≤ nI b) = (a ≤ b) := propext (nI_leI ha hb)
theorem ar_eq {a b : Nat} (ha : a < 2147483648) (hb : b < 2147483648) : (nI a = nI b) = (a = b) := propext (nI_eq ha hb)
theorem ar_add (a b : Nat) : nI a + nI b = nI (a + b) := nI_add a b
theorem ar_sub {a b : Nat} (h : b ≤ a) : nI a - nI b = nI (a - b) := pk_sub h
theorem ar_mul (a b : Nat) : nI a * nI b = nI (a * b) := pk_mul a b
theorem ar_div {a d : Nat} (ha : a < 2147483648) (h0 : 0 < d) (hd : d < 2147483648) : nI a / nI d = nI (a / d) := pk_div ha h0 hd
theorem ar_m1 {a : Nat} (h : 1 ≤ a) : nI a + (-1) = nI (a - 1) := by
  obtain ⟨b, rfl⟩ : ∃ b, a = b + 1 := ⟨a - 1, by omega⟩
  rw [pk_m1]; rfl
theorem ar_toInt {n : Nat} (h : n < 2147483648) : (nI n).toInt = (n : Int) := nI_toInt h
theorem ar_neg1 : (-1 : Int32).toInt = -1 := by decide +kernel
theorem ar_nm {a : Nat} (h : a < 2147483648) : (nI a = -1) = False := eq_false (fun q => by
  have := congrArg Int32.toInt q
  rw [nI_toInt h, ar_neg1] at this
  omega)
theorem ar_mn {a : Nat} (h : a < 2147483648) : ((-1 : Int32) = nI a) = False := eq_false (fun q => (ar_nm h ▸ q.symm : False))
theorem ar_ltm {a : Nat} (h : a < 2147483648) : (nI a < -1) = False := eq_false (fun q => by
  have := Int32.lt_iff_toInt_lt.mp q
  rw [nI_toInt h, ar_neg1] at this
  omega)
theorem ar_mlt {a : Nat} (h : a < 2147483648) : ((-1 : Int32) < nI a) = True := eq_true (by
  rw [Int32.lt_iff_toInt_lt, nI_toInt h, ar_neg1]
  omega)
theorem ar_lem {a : Nat} (h : a < 2147483648) : (nI a ≤ -1) = False := eq_false (fun q => by
  have := Int32.le_iff_toInt_le.mp q
  rw [nI_toInt h, ar_neg1] at this
  omega)
theorem ar_mle {a : Nat} (h : a < 2147483648) : ((-1 : Int32) ≤ nI a) = True := eq_true (by
  rw [Int32.le_iff_toInt_le, nI_toInt h, ar_neg1]
  omega)
theorem ar_okw {h : pm_H} {a i : Nat} (hi : i < 2147483648) : ok_w h a (nI i) = ((rK h a).1 = 2 ∧ i < (rK h a).2) := by
  unfold ok_w
  rw [ar_n0 hi, ar_cl hi]
  simp
theorem ar_oki {h : pm_H} {a i : Nat} (hi : i < 2147483648) : ok_i h a (nI i) = (((rK h a).1 = 2 ∨ (rK h a).1 = 3) ∧ i < (rK h a).2) := by
  unfold ok_i
  rw [ar_n0 hi, ar_cl hi]
  simp
theorem ar_okr {h : pm_H} {a i : Nat} (hi : i < 2147483648) : ok_r h a (nI i) = (4 ≤ (rK h a).1 ∧ (rK h a).1 < 8 ∧ i < (rK h a).2) := by
  unfold ok_r
  rw [ar_n0 hi, ar_cl hi]
  simp
/-- a number: none, or a small one -/
theorem ar_ix (x : Int32) {n : Nat} (hn : n < 2147483648) : (x < nI 0 ∧ ¬ (0 ≤ x.toInt ∧ x.toInt < n)) ∨ (¬ x < nI 0 ∧ nI n ≤ x ∧ ¬ (0 ≤ x.toInt ∧ x.toInt < n)) ∨ ∃ j : Nat, j < n ∧ x = nI j := by
  rcases pk_ix x hn with h | h | ⟨j, hj, rfl⟩
  · have := Int32.lt_iff_toInt_lt.mp h
    rw [Int32.toInt_zero] at this
    exact Or.inl ⟨by rw [nI_0]; exact h, by omega⟩
  · have h1 := Int32.le_iff_toInt_le.mp h
    rw [nI_toInt hn] at h1
    refine Or.inr (Or.inl ⟨fun q => ?_, h, by omega⟩)
    have := Int32.lt_iff_toInt_lt.mp q
    rw [nI_0, Int32.toInt_zero] at this
    omega
  · exact Or.inr (Or.inr ⟨j, hj, rfl⟩)
theorem uI_uA (h : pm_H) (a k : Nat) (f : Nat → Int32) (v : Int32) : uI (uA h a f) a k v = uA h a (upd f k v) := by
  simp only [uI, uA, rI]
  congr 2
  funext b
  by_cases hb : b = a <;> simp [hb]
theorem uA_uA (h : pm_H) (a : Nat) (f g : Nat → Int32) : uA (uA h a f) a g = uA h a g := by
  simp only [uA]
  congr 2
  funext b
  by_cases hb : b = a <;> simp [hb]
theorem uA_self (h : pm_H) (a : Nat) : uA h a (rI h a) = h := by
  simp only [uA, rI]
  have : (fun b => if b = a then h.2.1 a else h.2.1 b) = h.2.1 := by
    funext b
    by_cases hb : b = a <;> simp [hb]
  rw [this]
/-! THE JDK'S OWN: max, min -/
theorem s_max (a b : Int32) (h : pm_H) (Q : Option Value × pm_H → Prop) : pGo 182 0 [some (.int a), some (.int b)] [] h Q = Q (some (.int (if a < b then b else a)), h) := by
  simp only [k182_0, k182_1, k182_2, k182_5, k182_6, k182_9, k182_10, if_true, if_false, ite_true, ite_false, not_true_eq_false, not_false_eq_true, true_or, or_true, false_or, or_false, and_self, ok_n0, ok_ni, ok_nr, ok_nl, va_rf_some, va_rf_none, true_and, and_true, List.length_nil, List.length_cons, Option.toList_some, Option.toList_none, List.cons_append, List.nil_append, rK_uA, rK_uI, rK_uJ, rK_uP, rP_uA, rP_uI, rP_uJ, rJ_uA, rJ_uI, rJ_uP, rI_uJ, rI_uP, rz_uA, rz_uI, rz_uJ, rz_uP, rs_uA, rs_uI, rs_uJ, rs_uP, Nat.reduceAdd, Nat.reduceMul, Nat.reduceSub, Nat.reduceLeDiff, Nat.reduceLT, Nat.reduceEqDiff, Nat.add_zero, Nat.zero_add, Nat.zero_le]
  split <;> rfl
theorem s_min (a b : Int32) (h : pm_H) (Q : Option Value × pm_H → Prop) : pGo 183 0 [some (.int a), some (.int b)] [] h Q = Q (some (.int (if b < a then b else a)), h) := by
  simp only [k183_0, k183_1, k183_2, k183_5, k183_6, k183_9, k183_10, if_true, if_false, ite_true, ite_false, not_true_eq_false, not_false_eq_true, true_or, or_true, false_or, or_false, and_self, ok_n0, ok_ni, ok_nr, ok_nl, va_rf_some, va_rf_none, true_and, and_true, List.length_nil, List.length_cons, Option.toList_some, Option.toList_none, List.cons_append, List.nil_append, rK_uA, rK_uI, rK_uJ, rK_uP, rP_uA, rP_uI, rP_uJ, rJ_uA, rJ_uI, rJ_uP, rI_uJ, rI_uP, rz_uA, rz_uI, rz_uJ, rz_uP, rs_uA, rs_uI, rs_uJ, rs_uP, Nat.reduceAdd, Nat.reduceMul, Nat.reduceSub, Nat.reduceLeDiff, Nat.reduceLT, Nat.reduceEqDiff, Nat.add_zero, Nat.zero_add, Nat.zero_le]
  split <;> rfl
