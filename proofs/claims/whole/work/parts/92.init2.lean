/-! THE DESK'S INIT; THE FIRST VECTOR -/
def rw3 (u : Nat → Int32) (i : Nat) : Nat → Int32 := upd (upd (upd u (35 + 65 * i + 1) (nI 1)) (35 + 65 * i + 2) (nI 500)) (35 + 65 * i + 4) (-1)
def iniR (u : Nat → Int32) : Nat → Nat → Int32
  | 0 => u
  | i + 1 => rw3 (iniR u i) i
def iniB : Nat → Int32 := fil (upd (upd (upd (upd (fun _ => 0) 0 (nI 1)) 7 (nI 800)) 8 (nI 600)) 25 (nI 8)) 26 (fun k => nI (k + 1)) 8
def iniV : Nat → Int32 := iniR iniB 9
theorem iniR_o (u : Nat → Int32) {e : Nat} : ∀ i, (e < 35 ∨ 35 + 65 * i ≤ e) → iniR u i e = u e := by
  intro i
  induction i with
  | zero => intro _; rfl
  | succ i ih =>
    intro h
    rw [iniR, rw3, upd_at, if_neg (by omega), upd_at, if_neg (by omega), upd_at, if_neg (by omega)]
    exact ih (by omega)
theorem iniR_at (u : Nat → Int32) (hu : ∀ e, 35 ≤ e → u e = nI 0) {j x : Nat} (hx : x < 65) : ∀ i, j < i → iniR u i (35 + 65 * j + x) = if x = 1 then nI 1 else if x = 2 then nI 500 else if x = 4 then -1 else nI 0 := by
  intro i
  induction i with
  | zero => intro h; omega
  | succ i ih =>
    intro h
    rw [iniR, rw3]
    by_cases e : j = i
    · subst e
      rw [upd_at, upd_at, upd_at]
      by_cases x1 : x = 1
      · rw [if_neg (by omega), if_neg (by omega), if_pos (by omega), if_pos x1]
      · rw [if_neg x1]
        by_cases x2 : x = 2
        · rw [if_neg (by omega), if_pos (by omega), if_pos x2]
        · rw [if_neg x2]
          by_cases x4 : x = 4
          · rw [if_pos (by omega), if_pos x4]
          · rw [if_neg (by omega), if_neg (by omega), if_neg (by omega), if_neg x4, iniR_o u _ (by omega)]
            exact hu _ (by omega)
    · rw [upd_at, if_neg (by omega), upd_at, if_neg (by omega), upd_at, if_neg (by omega)]
      exact ih (by omega)
theorem iniB_o {e : Nat} (h : ¬ e = 0 ∧ ¬ e = 7 ∧ ¬ e = 8 ∧ ¬ e = 25) (h2 : e < 26 ∨ 34 ≤ e) : iniB e = nI 0 := by
  rw [iniB, fil_o _ _ _ (by omega), upd_at, if_neg (by omega), upd_at, if_neg (by omega), upd_at, if_neg (by omega), upd_at, if_neg (by omega)]; rfl
theorem iniV_lo {e : Nat} (h : e < 35) : iniV e = iniB e := iniR_o _ _ (Or.inl h)
theorem iniV_at {j x : Nat} (hj : j < 9) (hx : x < 65) : iniV (35 + 65 * j + x) = if x = 1 then nI 1 else if x = 2 then nI 500 else if x = 4 then -1 else nI 0 := iniR_at _ (fun e he => iniB_o (by omega) (by omega)) hx 9 hj
theorem iniV_hi {e : Nat} (h : 620 ≤ e) : iniV e = nI 0 := by rw [iniV, iniR_o _ _ (by omega)]; exact iniB_o (by omega) (by omega)
theorem iniV_o {e : Nat} (h3 : e < 35) (h : ¬ e = 0 ∧ ¬ e = 7 ∧ ¬ e = 8 ∧ ¬ e = 25) (h2 : e < 26 ∨ 34 ≤ e) : iniV e = nI 0 := by rw [iniV_lo h3]; exact iniB_o h h2
theorem iniV_0 : iniV 0 = nI 1 := by
  rw [iniV_lo (by omega), iniB, fil_o _ _ _ (by omega), upd_at, if_neg (by omega), upd_at, if_neg (by omega), upd_at, if_neg (by omega), upd_at, if_pos rfl]
theorem iniV_7 : iniV 7 = nI 800 := by
  rw [iniV_lo (by omega), iniB, fil_o _ _ _ (by omega), upd_at, if_neg (by omega), upd_at, if_neg (by omega), upd_at, if_pos rfl]
theorem iniV_8 : iniV 8 = nI 600 := by
  rw [iniV_lo (by omega), iniB, fil_o _ _ _ (by omega), upd_at, if_neg (by omega), upd_at, if_pos rfl]
theorem iniV_25 : iniV 25 = nI 8 := by
  rw [iniV_lo (by omega), iniB, fil_o _ _ _ (by omega), upd_at, if_pos rfl]
theorem iniV_26 {k : Nat} (h : k < 8) : iniV (26 + k) = nI (k + 1) := by
  rw [iniV_lo (by omega), iniB, fil_in _ _ _ h]
theorem ini_si : SI iniV 1 0 (fun k => k) (fun k => k) (fun k => k) (fun k => k) := by
  refine ⟨by omega, by omega, by omega, iniV_0, iniV_o (by omega) (by omega) (by omega), iniV_25, fun j hj => ?_, fun k hk => ?_, PI.id _, rfl, fun k hk => absurd hk (by omega), PI.id _, fun j h1 h2 => iniV_o (by omega) (by omega) (by omega), fun k h1 h2 => ?_, fun k h1 h2 => iniV_o (by omega) (by omega) (by omega), fun e h1 h2 => iniV_o (by omega) (by omega) (by omega), fun j hj => ?_⟩
  · have hj : j = 0 := by omega
    subst hj
    exact iniV_o (by omega) (by omega) (by omega)
  · rw [iniV_26 (by omega)]; show nI (k + 1) = nI (1 + k); congr 1; omega
  · have : k = 8 := by omega
    subst this
    exact iniV_o (by omega) (by omega) (by omega)
  · have hj : j = 0 := by omega
    subst hj
    simp only [bxV, Nat.mul_zero, Nat.add_zero]
    rw [show iniV 5 = nI 0 from iniV_o (by omega) (by omega) (by omega), show iniV (5 + 1) = nI 0 from iniV_o (by omega) (by omega) (by omega), show iniV (5 + 2) = nI 800 from iniV_7, show iniV (5 + 3) = nI 600 from iniV_8]
    rw [nI_toInt (by omega), nI_toInt (by omega), nI_toInt (by omega)]
    omega
theorem cntB_0 {f : Nat → Bool} : ∀ m, (∀ k, k < m → f k = false) → cntB f m = 0 := by
  intro m
  induction m with
  | zero => intro _; rfl
  | succ m ih =>
    intro h
    rw [cntB, ih (fun k hk => h k (by omega)), h m (by omega)]
    simp
theorem ini_ri : RI iniV (fun _ => 0) (fun _ => 0) (fun _ => 0) := by
  have z : ∀ w, iniV (620 + 6 * w) = nI 0 := fun w => iniV_hi (by omega)
  refine ⟨fun i hi => ⟨0, by omega, ?_⟩, fun i hi => ⟨1, by omega, ?_⟩, fun i hi => ⟨500, by omega, ?_⟩, fun i hi => ?_, fun i hi => Nat.zero_le _, fun i hi => Or.inl ⟨rfl, ?_⟩, fun i k hi hk => absurd hk (Nat.not_lt_zero _), fun i k hi h1 h2 => ?_, fun w hw ht => ?_, fun w hw => Or.inl (z w), fun w hw => Or.inl ⟨iniV_hi (by omega), fun c hc => iniV_hi (by omega)⟩, fun w c hw hc => ⟨0, by omega, iniV_hi (by omega)⟩, ?_⟩
  · have := iniV_at hi (x := 0) (by omega)
    rw [if_neg (by omega), if_neg (by omega), if_neg (by omega)] at this; exact this
  · rw [iniV_at hi (by omega), if_pos rfl]
  · rw [iniV_at hi (by omega), if_neg (by omega), if_pos rfl]
  · rw [iniV_at hi (by omega), if_neg (by omega), if_neg (by omega), if_neg (by omega)]
  · rw [iniV_at hi (by omega), if_neg (by omega), if_neg (by omega), if_pos rfl]
  · rw [Nat.add_assoc, iniV_at hi (by omega), if_neg (by omega), if_neg (by omega), if_neg (by omega)]
  · rw [z w] at ht; exact absurd ht n0_1
  · rw [cntB_0 60 (fun k hk => by rw [z k]; exact decide_eq_false n0_1)]; rfl
def IR (h0 : pm_H) (h : pm_H) (d : Nat) (i : Nat) : Prop := (rz h = d + 3 + 4 * i) ∧ (rs h = rs h0 + 23 + 67 * i) ∧ (∀ q, q < d → SQ h0 h q) ∧ (rK h d = (1, 1)) ∧ (rP h d 0 = some (d + 1)) ∧ (rK h (d + 1) = (7, 9)) ∧ (rP h d 1 = some (d + 2)) ∧ (rK h (d + 2) = (6, 9)) ∧ (∀ j, j < i → rP h (d + 1) j = some (d + 3 + 4 * j)) ∧ (∀ j, j < i → rP h (d + 2) j = some (d + 6 + 4 * j)) ∧ (∀ j, j < i → rK h (d + 3 + 4 * j) = (1, 6) ∧ rP h (d + 3 + 4 * j) 0 = some (d + 4 + 4 * j) ∧ rK h (d + 4 + 4 * j) = (1, 5) ∧ rP h (d + 4 + 4 * j) 0 = some (d + 5 + 4 * j) ∧ rK h (d + 5 + 4 * j) = (2, 60) ∧ rK h (d + 6 + 4 * j) = (1, 4)) ∧ (∀ j, j < i → rI h (d + 3 + 4 * j) 1 = -1 ∧ rI h (d + 4 + 4 * j) 1 = nI 0 ∧ rI h (d + 6 + 4 * j) 0 = nI 0 ∧ rI h (d + 6 + 4 * j) 1 = nI 1 ∧ rI h (d + 6 + 4 * j) 2 = nI 500)
theorem IR.z {h0 : pm_H} {h : pm_H} {d : Nat} {i : Nat} (x_ : IR h0 h d i) : rz h = d + 3 + 4 * i := x_.1
theorem IR.s {h0 : pm_H} {h : pm_H} {d : Nat} {i : Nat} (x_ : IR h0 h d i) : rs h = rs h0 + 23 + 67 * i := x_.2.1
theorem IR.o {h0 : pm_H} {h : pm_H} {d : Nat} {i : Nat} (x_ : IR h0 h d i) : ∀ q, q < d → SQ h0 h q := x_.2.2.1
theorem IR.k {h0 : pm_H} {h : pm_H} {d : Nat} {i : Nat} (x_ : IR h0 h d i) : rK h d = (1, 1) := x_.2.2.2.1
theorem IR.a {h0 : pm_H} {h : pm_H} {d : Nat} {i : Nat} (x_ : IR h0 h d i) : rP h d 0 = some (d + 1) := x_.2.2.2.2.1
theorem IR.b {h0 : pm_H} {h : pm_H} {d : Nat} {i : Nat} (x_ : IR h0 h d i) : rK h (d + 1) = (7, 9) := x_.2.2.2.2.2.1
theorem IR.a2 {h0 : pm_H} {h : pm_H} {d : Nat} {i : Nat} (x_ : IR h0 h d i) : rP h d 1 = some (d + 2) := x_.2.2.2.2.2.2.1
theorem IR.b2 {h0 : pm_H} {h : pm_H} {d : Nat} {i : Nat} (x_ : IR h0 h d i) : rK h (d + 2) = (6, 9) := x_.2.2.2.2.2.2.2.1
theorem IR.p {h0 : pm_H} {h : pm_H} {d : Nat} {i : Nat} (x_ : IR h0 h d i) : ∀ j, j < i → rP h (d + 1) j = some (d + 3 + 4 * j) := x_.2.2.2.2.2.2.2.2.1
theorem IR.p2 {h0 : pm_H} {h : pm_H} {d : Nat} {i : Nat} (x_ : IR h0 h d i) : ∀ j, j < i → rP h (d + 2) j = some (d + 6 + 4 * j) := x_.2.2.2.2.2.2.2.2.2.1
theorem IR.r {h0 : pm_H} {h : pm_H} {d : Nat} {i : Nat} (x_ : IR h0 h d i) : ∀ j, j < i → rK h (d + 3 + 4 * j) = (1, 6) ∧ rP h (d + 3 + 4 * j) 0 = some (d + 4 + 4 * j) ∧ rK h (d + 4 + 4 * j) = (1, 5) ∧ rP h (d + 4 + 4 * j) 0 = some (d + 5 + 4 * j) ∧ rK h (d + 5 + 4 * j) = (2, 60) ∧ rK h (d + 6 + 4 * j) = (1, 4) := x_.2.2.2.2.2.2.2.2.2.2.1
theorem IR.x {h0 : pm_H} {h : pm_H} {d : Nat} {i : Nat} (x_ : IR h0 h d i) : ∀ j, j < i → rI h (d + 3 + 4 * j) 1 = -1 ∧ rI h (d + 4 + 4 * j) 1 = nI 0 ∧ rI h (d + 6 + 4 * j) 0 = nI 0 ∧ rI h (d + 6 + 4 * j) 1 = nI 1 ∧ rI h (d + 6 + 4 * j) 2 = nI 500 := x_.2.2.2.2.2.2.2.2.2.2.2
theorem i_rows {h0 : pm_H} {d : Nat} : ∀ m i, i + m = 9 → ∀ h, IR h0 h d i → ∃ h', IR h0 h' d 9 ∧ ∀ Q, pGo 12 24 [some (.ref d), some (.int (nI i))] [] h Q = pGo 12 62 [some (.ref d), some (.int (nI 9))] [] h' Q := by
  intro m
  induction m with
  | zero =>
    intro i hi h t
    have hi : i = 9 := by omega
    subst hi
    refine ⟨h, t, fun Q => ?_⟩
    rw [k12_24]
    simp (disch := omega) only [k12_25, k12_27, if_true, if_false, ite_true, ite_false, not_true_eq_false, not_false_eq_true, true_or, or_true, false_or, or_false, and_self, ok_n0, ok_ni, ok_nr, ok_nl, va_rf_some, va_rf_none, true_and, and_true, List.length_nil, List.length_cons, Option.toList_some, Option.toList_none, List.cons_append, List.nil_append, rK_uA, rK_uI, rK_uJ, rK_uP, rP_uA, rP_uI, rP_uJ, rJ_uA, rJ_uI, rJ_uP, rI_uJ, rI_uP, rz_uA, rz_uI, rz_uJ, rz_uP, rs_uA, rs_uI, rs_uJ, rs_uP, Nat.reduceAdd, Nat.reduceMul, Nat.reduceSub, Nat.reduceLeDiff, Nat.reduceLT, Nat.reduceEqDiff, Nat.add_zero, Nat.zero_add, Nat.zero_le, ar_le, Nat.le_refl]
  | succ m ih =>
    intro i hi h t
    have c1 : ¬ 9 ≤ i := by omega
    have i9 : i < 9 := by omega
    obtain ⟨h1, x1, ⟨w1, w2, w3⟩, r1, r2, r3, l1, l2, l3, l4, l5⟩ := n_Row h
    rw [t.z] at x1 w1 w3 r1 r2 r3 l1 l2 l3 l4 l5
    generalize hh2 : uP h1 (d + 1) i (some (d + 3 + 4 * i)) = h2
    have q2 : ∀ q, ¬ q = d + 1 → SQ h1 h2 q := fun q hq => by rw [← hh2]; exact SQ.uP _ _ _ hq
    have z2 : rz h2 = d + 6 + 4 * i := by rw [← hh2, rz_uP, w1]; omega
    have s2 : rs h2 = rs h + 64 := by rw [← hh2, rs_uP, w2]
    obtain ⟨h3, x3, ⟨y1, y2, y3⟩, u1, u2, u3, u4⟩ := n_Layout h2
    rw [z2] at x3 y1 y3 u1 u2 u3 u4
    generalize hh4 : uP h3 (d + 2) i (some (d + 6 + 4 * i)) = h4
    have q4 : ∀ q, ¬ q = d + 2 → SQ h3 h4 q := fun q hq => by rw [← hh4]; exact SQ.uP _ _ _ hq
    have c : ∀ q, ¬ q = d + 1 → ¬ q = d + 2 → q < d + 3 + 4 * i → SQ h h4 q := fun q e1 e2 e3 => (((w3 q e3).tr (q2 q e1)).tr (y3 q (by omega))).tr (q4 q e2)
    have c1' : ∀ q, ¬ q = d + 1 → ¬ q = d + 2 → q < d + 6 + 4 * i → SQ h1 h4 q := fun q e1 e2 e3 => ((q2 q e1).tr (y3 q e3)).tr (q4 q e2)
    have b1 := w3 (d + 1) (by omega)
    have b2 := w3 (d + 2) (by omega)
    have b3 := y3 (d + 1) (by omega)
    have b4 := y3 (d + 2) (by omega)
    have K1 : rK h1 (d + 1) = (7, 9) := by rw [b1.1]; exact t.b
    have K2 : rK h2 = rK h1 := by rw [← hh2, rK_uP]
    have K4 : rK h4 = rK h3 := by rw [← hh4, rK_uP]
    have KA : rK h3 (d + 1) = (7, 9) := by rw [b3.1, K2]; exact K1
    have KB : rK h3 (d + 2) = (6, 9) := by rw [b4.1, K2, b2.1]; exact t.b2
    have KD : rK h1 d = (1, 1) := by rw [(w3 d (by omega)).1]; exact t.k
    have PD : rP h1 d = rP h d := (w3 d (by omega)).2.2.2
    have KD2 : rK h2 d = (1, 1) := by rw [K2]; exact KD
    have PD2 : rP h2 d = rP h d := by rw [(q2 d (by omega)).2.2.2]; exact PD
    have t' : IR h0 h4 d (i + 1) := by
      refine ⟨by rw [← hh4, rz_uP, y1]; omega, by rw [← hh4, rs_uP, y2, s2, t.s]; omega, fun q hq => (t.o q hq).tr (c q (by omega) (by omega) (by omega)), ?_, ?_, ?_, ?_, ?_, fun j hj => ?_, fun j hj => ?_, fun j hj => ?_, fun j hj => ?_⟩
      · rw [(c d (by omega) (by omega) (by omega)).1]; exact t.k
      · rw [(c d (by omega) (by omega) (by omega)).2.2.2]; exact t.a
      · rw [K4]; exact KA
      · rw [(c d (by omega) (by omega) (by omega)).2.2.2]; exact t.a2
      · rw [K4]; exact KB
      · rw [(q4 (d + 1) (by omega)).2.2.2, b3.2.2.2, ← hh2, rP_uPs]
        by_cases e : j = i
        · rw [if_pos e, e]
        · rw [if_neg e, b1.2.2.2]; exact t.p j (by omega)
      · rw [← hh4, rP_uPs]
        by_cases e : j = i
        · rw [if_pos e, e]
        · rw [if_neg e, b4.2.2.2, (q2 (d + 2) (by omega)).2.2.2, b2.2.2.2]; exact t.p2 j (by omega)
      · by_cases e : j = i
        · subst e
          have v3 := c1' (d + 3 + 4 * j) (by omega) (by omega) (by omega)
          have v4 := c1' (d + 4 + 4 * j) (by omega) (by omega) (by omega)
          have v5 := c1' (d + 5 + 4 * j) (by omega) (by omega) (by omega)
          rw [show d + 3 + 4 * j + 1 = d + 4 + 4 * j by omega] at r2 l1 l2 l3
          rw [show d + 4 + 4 * j + 1 = d + 5 + 4 * j by omega] at l2 l3
          rw [v3.1, v3.2.2.2, v4.1, v4.2.2.2, v5.1, K4]
          exact ⟨r1, r2, l1, l2, l3, u1⟩
        · have v3 := c (d + 3 + 4 * j) (by omega) (by omega) (by omega)
          have v4 := c (d + 4 + 4 * j) (by omega) (by omega) (by omega)
          have v5 := c (d + 5 + 4 * j) (by omega) (by omega) (by omega)
          have v6 := c (d + 6 + 4 * j) (by omega) (by omega) (by omega)
          rw [v3.1, v3.2.2.2, v4.1, v4.2.2.2, v5.1, v6.1]
          exact t.r j (by omega)
      · by_cases e : j = i
        · subst e
          have v3 := c1' (d + 3 + 4 * j) (by omega) (by omega) (by omega)
          have v4 := c1' (d + 4 + 4 * j) (by omega) (by omega) (by omega)
          rw [show d + 3 + 4 * j + 1 = d + 4 + 4 * j by omega] at l4
          rw [v3.2.1, v4.2.1, (q4 (d + 6 + 4 * j) (by omega)).2.1]
          exact ⟨r3, l4, u2, u3, u4⟩
        · have v3 := c (d + 3 + 4 * j) (by omega) (by omega) (by omega)
          have v4 := c (d + 4 + 4 * j) (by omega) (by omega) (by omega)
          have v6 := c (d + 6 + 4 * j) (by omega) (by omega) (by omega)
          rw [v3.2.1, v4.2.1, v6.2.1]
          exact t.x j (by omega)
    obtain ⟨h', a, e⟩ := ih (i + 1) (by omega) _ t'
    refine ⟨h', a, fun Q => ?_⟩
    rw [← e Q, k12_24]
    simp (disch := omega) only [k12_0, k12_1, k12_4, k12_5, k12_7, k12_10, k12_13, k12_14, k12_16, k12_19, k12_22, k12_23, k12_25, k12_27, k12_30, k12_31, k12_34, k12_35, k12_38, k12_38i, k12_39, k12_42, k12_43, k12_44, k12_47, k12_48, k12_51, k12_51i, k12_52, k12_55, k12_56, k12_59, k12_63, k12_66, k12_66i, k12_67, k12_70, k12_73, k12_74, k12_77, k12_77i, k12_78, k12_81, k12_84, k12_85, k12_87, k12_89, k12_92, k12_93, k12_95, k12_97, k12_100, k12_101, k12_104, k12_105, k12_106, k12_107, k12_110, k12_113, x1, x3, if_true, if_false, ite_true, ite_false, not_true_eq_false, not_false_eq_true, true_or, or_true, false_or, or_false, and_self, ok_n0, ok_ni, ok_nr, ok_nl, va_rf_some, va_rf_none, true_and, and_true, List.length_nil, List.length_cons, Option.toList_some, Option.toList_none, List.cons_append, List.nil_append, rK_uA, rK_uI, rK_uJ, rK_uP, rP_uA, rP_uI, rP_uJ, rJ_uA, rJ_uI, rJ_uP, rI_uJ, rI_uP, rz_uA, rz_uI, rz_uJ, rz_uP, rs_uA, rs_uI, rs_uJ, rs_uP, Nat.reduceAdd, Nat.reduceMul, Nat.reduceSub, Nat.reduceLeDiff, Nat.reduceLT, Nat.reduceEqDiff, Nat.add_zero, Nat.zero_add, Nat.zero_le, t.k, t.a, t.b, t.a2, t.b2, t.z, z2, K1, KD, PD, KD2, PD2, KB, r1, u1, hh2, hh4, ar_le, ar_add, ar_okr, ar_cl, c1, i9, el_6, el_7]
theorem i_homes {h0 : pm_H} {d : Nat} (k0 : rK h0 d = (1, 1)) (k1 : rP h0 d 4 = some (d + 52)) (k2 : rK h0 (d + 52) = (2, 60)) (Q : Option Value × pm_H → Prop) : ∀ m i, i + m = 60 → pGo 12 94 [some (.ref d), some (.int (nI i))] [] (uA h0 (d + 52) (fil (rI h0 (d + 52)) 0 (fun _ => -1) i)) Q = Q (none, uA h0 (d + 52) (fil (rI h0 (d + 52)) 0 (fun _ => -1) 60)) := by
  intro m
  induction m with
  | zero =>
    intro i hi
    have hi : i = 60 := by omega
    subst hi
    rw [k12_94]
    simp (disch := omega) only [k12_0, k12_1, k12_4, k12_5, k12_7, k12_10, k12_13, k12_14, k12_16, k12_19, k12_22, k12_23, k12_25, k12_27, k12_30, k12_31, k12_34, k12_35, k12_38, k12_38i, k12_39, k12_42, k12_43, k12_44, k12_47, k12_48, k12_51, k12_51i, k12_52, k12_55, k12_56, k12_59, k12_63, k12_66, k12_66i, k12_67, k12_70, k12_73, k12_74, k12_77, k12_77i, k12_78, k12_81, k12_84, k12_85, k12_87, k12_89, k12_92, k12_93, k12_95, k12_97, k12_100, k12_101, k12_104, k12_105, k12_106, k12_107, k12_110, k12_113, if_true, if_false, ite_true, ite_false, not_true_eq_false, not_false_eq_true, true_or, or_true, false_or, or_false, and_self, ok_n0, ok_ni, ok_nr, ok_nl, va_rf_some, va_rf_none, true_and, and_true, List.length_nil, List.length_cons, Option.toList_some, Option.toList_none, List.cons_append, List.nil_append, rK_uA, rK_uI, rK_uJ, rK_uP, rP_uA, rP_uI, rP_uJ, rJ_uA, rJ_uI, rJ_uP, rI_uJ, rI_uP, rz_uA, rz_uI, rz_uJ, rz_uP, rs_uA, rs_uI, rs_uJ, rs_uP, Nat.reduceAdd, Nat.reduceMul, Nat.reduceSub, Nat.reduceLeDiff, Nat.reduceLT, Nat.reduceEqDiff, Nat.add_zero, Nat.zero_add, Nat.zero_le, ar_le, Nat.le_refl]
  | succ m ih =>
    intro i hi
    have c1 : ¬ 60 ≤ i := by omega
    have c2 : i < 60 := by omega
    have e1 : upd (fil (rI h0 (d + 52)) 0 (fun _ => -1) i) i (-1) = fil (rI h0 (d + 52)) 0 (fun _ => -1) (i + 1) := by
      have := fil_s (rI h0 (d + 52)) 0 (fun _ => -1) i
      rw [Nat.zero_add] at this; exact this
    rw [k12_94]
    simp (disch := omega) only [k12_0, k12_1, k12_4, k12_5, k12_7, k12_10, k12_13, k12_14, k12_16, k12_19, k12_22, k12_23, k12_25, k12_27, k12_30, k12_31, k12_34, k12_35, k12_38, k12_38i, k12_39, k12_42, k12_43, k12_44, k12_47, k12_48, k12_51, k12_51i, k12_52, k12_55, k12_56, k12_59, k12_63, k12_66, k12_66i, k12_67, k12_70, k12_73, k12_74, k12_77, k12_77i, k12_78, k12_81, k12_84, k12_85, k12_87, k12_89, k12_92, k12_93, k12_95, k12_97, k12_100, k12_101, k12_104, k12_105, k12_106, k12_107, k12_110, k12_113, if_true, if_false, ite_true, ite_false, not_true_eq_false, not_false_eq_true, true_or, or_true, false_or, or_false, and_self, ok_n0, ok_ni, ok_nr, ok_nl, va_rf_some, va_rf_none, true_and, and_true, List.length_nil, List.length_cons, Option.toList_some, Option.toList_none, List.cons_append, List.nil_append, rK_uA, rK_uI, rK_uJ, rK_uP, rP_uA, rP_uI, rP_uJ, rJ_uA, rJ_uI, rJ_uP, rI_uJ, rI_uP, rz_uA, rz_uI, rz_uJ, rz_uP, rs_uA, rs_uI, rs_uJ, rs_uP, Nat.reduceAdd, Nat.reduceMul, Nat.reduceSub, Nat.reduceLeDiff, Nat.reduceLT, Nat.reduceEqDiff, Nat.add_zero, Nat.zero_add, Nat.zero_le, k0, k1, k2, ar_le, ar_add, ar_okw, ar_cl, c1, c2, uI_uA, e1]
    exact ih (i + 1) (by omega)
theorem n_Desk (h : pm_H) : ∃ h', (∀ Q, pGo 12 0 [some (.ref (rz h)), none] [] (aN h (1, 1) 5) Q = Q (none, h')) ∧ NW h h' 53 975 ∧ DV h' (rz h) iniV 1 (fun _ => 0) (fun _ => 0) := by
  generalize hz : rz h = d
  have k1 : rK (aN h (1, 1) 5) d = (1, 1) := by rw [rK_aN, if_pos hz.symm]
  have b0 : IR h (uP (aN (uP (aN (aN h (1, 1) 5) (7, 9) 9) d 0 (some (d + 1))) (6, 9) 9) d 1 (some (d + 2))) d 0 := by
    refine ⟨by rw [rz_uP, rz_aN, rz_uP, rz_aN, rz_aN, hz], by rw [rs_uP, rs_aN, rs_uP, rs_aN, rs_aN], fun q hq => ((((SQ.aN h _ _ (by omega)).tr (SQ.aN _ _ _ (by rw [rz_aN]; omega))).tr (SQ.uP _ _ _ (by omega))).tr (SQ.aN _ _ _ (by rw [rz_uP, rz_aN, rz_aN]; omega))).tr (SQ.uP _ _ _ (by omega)), ?_, ?_, ?_, ?_, ?_, fun j hj => absurd hj (by omega), fun j hj => absurd hj (by omega), fun j hj => absurd hj (by omega), fun j hj => absurd hj (by omega)⟩
    · rw [rK_uP, rK_aN, rz_uP, rz_aN, rz_aN, if_neg (by omega), rK_uP, rK_aN, rz_aN, if_neg (by omega)]; exact k1
    · rw [rP_uPs, if_neg (by omega), rP_aN, rz_uP, rz_aN, rz_aN, if_neg (by omega), rP_uPs, if_pos rfl]
    · rw [rK_uP, rK_aN, rz_uP, rz_aN, rz_aN, if_neg (by omega), rK_uP, rK_aN, rz_aN, if_pos (by omega)]
    · rw [rP_uPs, if_pos rfl]
    · rw [rK_uP, rK_aN, rz_uP, rz_aN, rz_aN, if_pos (by omega)]
  obtain ⟨h1, t, e1⟩ := i_rows 9 0 (by omega) _ b0
  have tz : rz h1 = d + 39 := by rw [t.z]
  obtain ⟨h2, x2, ⟨w1, w2, w3⟩, sk, s2, s3, s7, s9, s6, s10, g0, g1, g2, g3⟩ := n_Screens h1
  rw [tz] at x2 w1 w3 sk s2 s3 s7 s9 s6 s10 g0 g1 g2 g3
  generalize hh3 : uP h2 d 2 (some (d + 39)) = h3
  have q3 : ∀ q, ¬ q = d → SQ h2 h3 q := fun q hq => by rw [← hh3]; exact SQ.uP _ _ _ hq
  have z3 : rz h3 = d + 50 := by rw [← hh3, rz_uP, w1]
  obtain ⟨h4, x4, ⟨y1, y2, y3⟩, u1, u2, u3, u4, u5⟩ := n_Floats h3
  rw [z3] at x4 y1 y3 u1 u2 u3 u4 u5
  generalize hh5 : uP h4 d 3 (some (d + 50)) = h5
  have q5 : ∀ q, ¬ q = d → SQ h4 h5 q := fun q hq => by rw [← hh5]; exact SQ.uP _ _ _ hq
  have z5 : rz h5 = d + 52 := by rw [← hh5, rz_uP, y1]
  generalize hh6 : uP (aN h5 (2, 60) 60) d 4 (some (d + 52)) = h6
  have q6 : ∀ q, ¬ q = d → q < d + 52 → SQ h5 h6 q := fun q hq hq2 => by rw [← hh6]; exact (SQ.aN _ _ _ (by omega)).tr (SQ.uP _ _ _ hq)
  have vd2 := w3 d (by omega)
  have vd4 := y3 d (by omega)
  have K2 : rK h2 d = (1, 1) := by rw [vd2.1]; exact t.k
  have K4 : rK h4 d = (1, 1) := by rw [vd4.1, ← hh3, rK_uP]; exact K2
  have K5 : rK h5 d = (1, 1) := by rw [← hh5, rK_uP]; exact K4
  have K6 : rK h6 d = (1, 1) := by rw [← hh6, rK_uP, rK_aN, if_neg (by omega)]; exact K5
  have P6 : ∀ j, rP h6 d j = if j = 4 then some (d + 52) else if j = 3 then some (d + 50) else if j = 2 then some (d + 39) else rP h1 d j := fun j => by
    rw [← hh6, rP_uPs]
    by_cases e4 : j = 4
    · rw [if_pos e4, if_pos e4]
    · rw [if_neg e4, if_neg e4, rP_aN, if_neg (by omega), ← hh5, rP_uPs]
      by_cases e3 : j = 3
      · rw [if_pos e3, if_pos e3]
      · rw [if_neg e3, if_neg e3, vd4.2.2.2, ← hh3, rP_uPs]
        by_cases e2 : j = 2
        · rw [if_pos e2, if_pos e2]
        · rw [if_neg e2, if_neg e2, vd2.2.2.2]
  have K652 : rK h6 (d + 52) = (2, 60) := by rw [← hh6, rK_uP, rK_aN, if_pos (by omega)]
  have xh := fun Q => i_homes (h0 := h6) (d := d) K6 (by rw [P6, if_pos rfl]) K652 Q 60 0 (by omega)
  rw [fil_0, uA_self] at xh
  generalize hh7 : uA h6 (d + 52) (fil (rI h6 (d + 52)) 0 (fun _ => -1) 60) = h7 at xh
  have q7 : ∀ q, ¬ q = d + 52 → SQ h6 h7 q := fun q hq => by rw [← hh7]; exact SQ.uA _ _ hq
  have C1 : ∀ q, ¬ q = d → q < d + 39 → SQ h1 h7 q := fun q e1 e2 => (((((w3 q e2).tr (q3 q e1)).tr (y3 q (by omega))).tr (q5 q e1)).tr (q6 q e1 (by omega))).tr (q7 q (by omega))
  have C2 : ∀ q, ¬ q = d → q < d + 50 → SQ h2 h7 q := fun q e1 e2 => ((((q3 q e1).tr (y3 q (by omega))).tr (q5 q e1)).tr (q6 q e1 (by omega))).tr (q7 q (by omega))
  have C4 : ∀ q, ¬ q = d → q < d + 52 → SQ h4 h7 q := fun q e1 e2 => ((q5 q e1).tr (q6 q e1 e2)).tr (q7 q (by omega))
  have P7 : rP h7 d = rP h6 d := (q7 d (by omega)).2.2.2
  have dk : DK h7 d := by
    refine ⟨by rw [(q7 d (by omega)).1]; exact K6, by rw [P7, P6]; exact t.a, by rw [(C1 (d + 1) (by omega) (by omega)).1]; exact t.b, by rw [P7, P6]; exact t.a2, by rw [(C1 (d + 2) (by omega) (by omega)).1]; exact t.b2, fun i hi => ?_, fun i hi => ?_, fun i hi => ?_, by rw [P7, P6]; rfl, ?_, by rw [P7, P6]; rfl, ⟨?_, ?_, ?_, by omega⟩, by rw [P7, P6]; rfl, ?_⟩
    · rw [(C1 (d + 1) (by omega) (by omega)).2.2.2]; exact t.p i hi
    · rw [(C1 (d + 2) (by omega) (by omega)).2.2.2]; exact t.p2 i hi
    · have v3 := C1 (d + 3 + 4 * i) (by omega) (by omega)
      have v4 := C1 (d + 4 + 4 * i) (by omega) (by omega)
      have v5 := C1 (d + 5 + 4 * i) (by omega) (by omega)
      have v6 := C1 (d + 6 + 4 * i) (by omega) (by omega)
      rw [v3.1, v3.2.2.2, v4.1, v4.2.2.2, v5.1, v6.1]
      exact t.r i hi
    · obtain ⟨k0, k1, k2, k3, k4, k5, k6, k7, k8, k9, k10, k11, k12, k13, k14⟩ := sk
      refine ⟨?_, ?_, ?_, fun j hj => ?_, fun j hj => ?_, ?_, ?_, ?_, ?_, ?_, ?_, ?_, ?_, ?_, ?_⟩
      · rw [(C2 _ (by omega) (by omega)).1]; exact k0
      · rw [(C2 _ (by omega) (by omega)).2.2.2]; exact k1
      · rw [(C2 _ (by omega) (by omega)).1]; exact k2
      · rw [(C2 _ (by omega) (by omega)).2.2.2]; exact k3 j hj
      · rw [(C2 _ (by omega) (by omega)).1]; exact k4 j hj
      · rw [(C2 _ (by omega) (by omega)).2.2.2]; exact k5
      · rw [(C2 _ (by omega) (by omega)).1]; exact k6
      · rw [(C2 _ (by omega) (by omega)).2.2.2]; exact k7
      · rw [(C2 _ (by omega) (by omega)).1]; exact k8
      · rw [(C2 _ (by omega) (by omega)).2.2.2]; exact k9
      · rw [(C2 _ (by omega) (by omega)).1]; exact k10
      · rw [(C2 _ (by omega) (by omega)).2.2.2]; exact k11
      · rw [(C2 _ (by omega) (by omega)).1]; exact k12
      · rw [(C2 _ (by omega) (by omega)).2.2.2]; exact k13
      · rw [(C2 _ (by omega) (by omega)).1]; exact k14
    · rw [(C4 _ (by omega) (by omega)).1]; exact u1
    · rw [(C4 _ (by omega) (by omega)).2.2.2]; exact u2
    · rw [(C4 _ (by omega) (by omega)).1]; exact u3
    · rw [← hh7, rK_uA]; exact K652
  have e60 : 60 ≤ 100000 := by omega
  have e9 : 9 ≤ 100000 := by omega
  refine ⟨h7, fun Q => ?_, ⟨?_, ?_, fun q hq => ?_⟩, ⟨dk, ?_, ?_, ?_, ?_, fun j hj => ?_, fun j c hj hc => ?_, fun k hk => absurd hk (by omega), fun k hk => ?_, fun i c hi hc => ?_, fun i hi => ?_, fun i hi => ?_, fun i k hi hk => absurd hk (Nat.not_lt_zero _), fun w hw => ?_, fun w c hw hc => ?_, fun w => ?_⟩⟩
  · rw [k12_0]
    simp (disch := omega) only [k12_1, k12_4, k12_5, k12_7, k12_10, k12_13, k12_14, k12_16, k12_19, k12_22, k12_23, if_true, if_false, ite_true, ite_false, not_true_eq_false, not_false_eq_true, true_or, or_true, false_or, or_false, and_self, ok_n0, ok_ni, ok_nr, ok_nl, va_rf_some, va_rf_none, true_and, and_true, List.length_nil, List.length_cons, Option.toList_some, Option.toList_none, List.cons_append, List.nil_append, rK_uA, rK_uI, rK_uJ, rK_uP, rP_uA, rP_uI, rP_uJ, rJ_uA, rJ_uI, rJ_uP, rI_uJ, rI_uP, rz_uA, rz_uI, rz_uJ, rz_uP, rs_uA, rs_uI, rs_uJ, rs_uP, Nat.reduceAdd, Nat.reduceMul, Nat.reduceSub, Nat.reduceLeDiff, Nat.reduceLT, Nat.reduceEqDiff, Nat.add_zero, Nat.zero_add, Nat.zero_le, ar_n0, ar_cl, e9, rz_aN, rz_uP, rK_aN, hz, show ¬ d = d + 1 by omega, show ¬ d = d + 1 + 1 by omega, show d + 1 + 1 = d + 2 from rfl, e1 Q]
    rw [k12_62]
    simp (disch := omega) only [k12_1, k12_4, k12_5, k12_7, k12_10, k12_13, k12_14, k12_16, k12_19, k12_22, k12_23, k12_25, k12_27, k12_30, k12_31, k12_34, k12_35, k12_38, k12_38i, k12_39, k12_42, k12_43, k12_44, k12_47, k12_48, k12_51, k12_51i, k12_52, k12_55, k12_56, k12_59, k12_63, k12_66, k12_66i, k12_67, k12_70, k12_73, k12_74, k12_77, k12_77i, k12_78, k12_81, k12_84, k12_85, k12_87, k12_89, k12_92, k12_93, k12_95, k12_97, k12_100, k12_101, k12_104, k12_105, k12_106, k12_107, k12_110, k12_113, x2, x4, if_true, if_false, ite_true, ite_false, not_true_eq_false, not_false_eq_true, true_or, or_true, false_or, or_false, and_self, ok_n0, ok_ni, ok_nr, ok_nl, va_rf_some, va_rf_none, true_and, and_true, List.length_nil, List.length_cons, Option.toList_some, Option.toList_none, List.cons_append, List.nil_append, rK_uA, rK_uI, rK_uJ, rK_uP, rP_uA, rP_uI, rP_uJ, rJ_uA, rJ_uI, rJ_uP, rI_uJ, rI_uP, rz_uA, rz_uI, rz_uJ, rz_uP, rs_uA, rs_uI, rs_uJ, rs_uP, Nat.reduceAdd, Nat.reduceMul, Nat.reduceSub, Nat.reduceLeDiff, Nat.reduceLT, Nat.reduceEqDiff, Nat.add_zero, Nat.zero_add, Nat.zero_le, t.k, tz, z3, z5, K2, K4, K5, ar_n0, ar_cl, e60, hh3, hh5, hh6, rK_aN, show ¬ d = d + 52 by omega, w1, y1, show d + 39 + 11 = d + 50 from rfl, show d + 50 + 2 = d + 52 from rfl, xh]
  · rw [← hh7, rz_uA, ← hh6, rz_uP, rz_aN, z5, hz]
  · rw [← hh7, rs_uA, ← hh6, rs_uP, rs_aN, ← hh5, rs_uP, y2, ← hh3, rs_uP, w2, t.s]
  · exact (t.o q (by omega)).tr (C1 q (by omega) (by omega))
  · rw [(C2 _ (by omega) (by omega)).2.1, s2]; exact iniV_0.symm
  · rw [(C2 _ (by omega) (by omega)).2.1, s3]; exact (iniV_o (by omega) (by omega) (by omega)).symm
  · rw [(C2 _ (by omega) (by omega)).2.1, s7]
  · rw [(C2 _ (by omega) (by omega)).2.1, s9]
  · have hj : j = 0 := by omega
    subst hj
    rw [(C2 _ (by omega) (by omega)).2.1, s6]; exact (iniV_o (by omega) (by omega) (by omega)).symm
  · have hj : j = 0 := by omega
    subst hj
    rw [(C2 _ (by omega) (by omega)).2.1]
    simp only [Nat.mul_zero, Nat.add_zero]
    rcases (show c = 0 ∨ c = 1 ∨ c = 2 ∨ c = 3 by omega) with rfl | rfl | rfl | rfl
    · rw [g0]; exact (iniV_o (by omega) (by omega) (by omega)).symm
    · rw [g1]; exact (iniV_o (by omega) (by omega) (by omega)).symm
    · rw [g2]; exact iniV_7.symm
    · rw [g3]; exact iniV_8.symm
  · rw [(C2 _ (by omega) (by omega)).2.1, s10 k (by omega), iniV_26 (by omega)]
  · obtain ⟨a1, a2, a3, a4, a5⟩ := t.x i hi
    rw [(C1 _ (by omega) (by omega)).2.1, iniV_at hi (by omega)]
    rcases (show c = 0 ∨ c = 1 ∨ c = 2 by omega) with rfl | rfl | rfl
    · rw [if_neg (by omega), if_neg (by omega), if_neg (by omega)]; exact a3
    · rw [if_pos rfl]; exact a4
    · rw [if_neg (by omega), if_pos rfl]; exact a5
  · rw [(C1 _ (by omega) (by omega)).2.1, iniV_at hi (by omega), if_neg (by omega), if_neg (by omega), if_neg (by omega)]; exact (t.x i hi).2.1
  · rw [(C1 _ (by omega) (by omega)).2.1, iniV_at hi (by omega), if_neg (by omega), if_neg (by omega), if_pos rfl]; exact (t.x i hi).1
  · rw [← hh7, rI_uA, if_pos rfl, iniV_hi (by omega), if_neg n0_1]
    have := fil_in (rI h6 (d + 52)) 0 (fun _ => -1) hw
    rw [Nat.zero_add] at this; exact this
  · rw [(C4 _ (by omega) (by omega)).2.1, u5, iniV_hi (by omega)]; rfl
  · rw [(C4 _ (by omega) (by omega)).2.2.1, u4, iniV_hi (by omega)]
    simp only [n0_1, and_false, decide_false]
    exact BitVec.getLsbD_zero
