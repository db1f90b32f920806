/-! THE TWO OBJECTS' INIT -/
theorem DK.cgl {h h' : pm_H} {d : Nat} (t : DK h d) (e : ∀ q, d ≤ q → q < d + 53 → rK h' q = rK h q ∧ rP h' q = rP h q) : DK h' d := by
  obtain ⟨k0, k1, k2, k3, k4, k5, k6, k7, k8, k9, k10, k11, k12, k13⟩ := t
  obtain ⟨s0, s1, s2, s3, s4, s5, s6, s7, s8, s9, s10, s11, s12, s13, s14⟩ := k9
  obtain ⟨f1, f2, f3, f4⟩ := k11
  have ed := e d (by omega) (by omega)
  have eK : ∀ x, x < 53 → rK h' (d + x) = rK h (d + x) := fun x hx => (e (d + x) (by omega) (by omega)).1
  have eP : ∀ x, x < 53 → rP h' (d + x) = rP h (d + x) := fun x hx => (e (d + x) (by omega) (by omega)).2
  refine ⟨by rw [ed.1]; exact k0, by rw [ed.2]; exact k1, by rw [eK _ (by omega)]; exact k2, by rw [ed.2]; exact k3, by rw [eK _ (by omega)]; exact k4, fun i hi => by rw [eP _ (by omega)]; exact k5 i hi, fun i hi => by rw [eP _ (by omega)]; exact k6 i hi, fun i hi => ?_, by rw [ed.2]; exact k8, ⟨?_, ?_, ?_, fun j hj => ?_, fun j hj => ?_, ?_, ?_, ?_, ?_, ?_, ?_, ?_, ?_, ?_, ?_⟩, by rw [ed.2]; exact k10, ⟨?_, ?_, ?_, f4⟩, by rw [ed.2]; exact k12, by rw [eK _ (by omega)]; exact k13⟩
  · rw [Nat.add_assoc d, Nat.add_assoc d, Nat.add_assoc d, Nat.add_assoc d, eK _ (by omega), eP _ (by omega), eK _ (by omega), eP _ (by omega), eK _ (by omega), eK _ (by omega)]
    simp only [← Nat.add_assoc]
    exact k7 i hi
  · rw [eK _ (by omega)]; exact s0
  · rw [eP _ (by omega)]; exact s1
  · rw [Nat.add_assoc d, eK _ (by omega)]; exact s2
  · rw [Nat.add_assoc d 39 1, eP _ (by omega)]; exact s3 j hj
  · rw [Nat.add_assoc d, Nat.add_assoc d, eK _ (by omega), ← Nat.add_assoc d, ← Nat.add_assoc d]; exact s4 j hj
  · rw [eP _ (by omega)]; exact s5
  · rw [Nat.add_assoc d, eK _ (by omega)]; exact s6
  · rw [eP _ (by omega)]; exact s7
  · rw [Nat.add_assoc d, eK _ (by omega)]; exact s8
  · rw [Nat.add_assoc d 39 7, eP _ (by omega)]; exact s9
  · rw [Nat.add_assoc d, eK _ (by omega)]; exact s10
  · rw [eP _ (by omega)]; exact s11
  · rw [Nat.add_assoc d, eK _ (by omega)]; exact s12
  · rw [Nat.add_assoc d 39 9, eP _ (by omega)]; exact s13
  · rw [Nat.add_assoc d, eK _ (by omega)]; exact s14
  · rw [eK _ (by omega)]; exact f1
  · rw [eP _ (by omega)]; exact f2
  · rw [eK _ (by omega)]; exact f3
theorem DV.cgl {h h' : pm_H} {d n : Nat} {v : Nat → Int32} {C H : Nat → Nat} (t : DV h d v n C H) (hn : n ≤ 4) (e : ∀ q, d ≤ q → q < d + 53 → SQ h h' q) : DV h' d v n C H := by
  have ei : ∀ b, d ≤ b → b < d + 53 → rI h' b = rI h b := fun b h1 h2 => (e b h1 h2).2.1
  refine ⟨t.k.cgl (fun q h1 h2 => ⟨(e q h1 h2).1, (e q h1 h2).2.2.2⟩), ?_, ?_, ?_, ?_, fun j hj => ?_, fun j c hj hc => ?_, fun k hk => ?_, fun k hk => ?_, fun i c hi hc => ?_, fun i hi => ?_, fun i hi => ?_, fun i k hi hk => ?_, fun w hw => ?_, fun w c hw hc => ?_, fun w => ?_⟩
  · rw [ei _ (by omega) (by omega)]; exact t.many
  · rw [ei _ (by omega) (by omega)]; exact t.cur
  · rw [ei _ (by omega) (by omega)]; exact t.vsz
  · rw [ei _ (by omega) (by omega)]; exact t.hsz
  · rw [ei _ (by omega) (by omega)]; exact t.ws j hj
  · rw [ei _ (by omega) (by omega)]; exact t.bx j c hj hc
  · rw [ei _ (by omega) (by omega)]; exact t.vis k hk
  · rw [ei _ (by omega) (by omega)]; exact t.hid k hk
  · rw [ei _ (by omega) (by omega)]; exact t.lay i c hi hc
  · rw [ei _ (by omega) (by omega)]; exact t.cnt i hi
  · rw [ei _ (by omega) (by omega)]; exact t.foc i hi
  · rw [ei _ (by omega) (by omega)]; exact t.ord i k hi hk
  · rw [ei _ (by omega) (by omega)]; exact t.hom w hw
  · rw [ei _ (by omega) (by omega)]; exact t.shr w c hw hc
  · rw [(e (d + 50) (by omega) (by omega)).2.2.1]; exact t.bit w
theorem n_Hist (h : pm_H) : ∃ h', (∀ Q, pGo 40 0 [some (.ref (rz h))] [] (aN h (1, 3) 4) Q = Q (none, h')) ∧ NW h h' 2 44 ∧ HK h' (rz h) ∧ (∀ k, rI h' (rz h) k = nI 0) ∧ ∀ k, rP h' (rz h + 1) k = none := by
  have d1 : ¬ rz h = rz h + 1 := by omega
  have d2 : ¬ rz h + 1 = rz h := by omega
  have e2 : 40 ≤ 100000 := by omega
  refine ⟨uP (aN (aN h (1, 3) 4) (5, 40) 40) (rz h) 0 (some (rz h + 1)), fun Q => ?_, ⟨?_, ?_, fun q hq => ?_⟩, ⟨?_, ?_, ?_⟩, fun k => ?_, fun k => ?_⟩
  · simp (disch := omega) only [k40_0, k40_1, k40_4, k40_5, k40_7, k40_10, k40_13, if_true, if_false, ite_true, ite_false, not_true_eq_false, not_false_eq_true, true_or, or_true, false_or, or_false, and_self, ok_n0, ok_ni, ok_nr, ok_nl, va_rf_some, va_rf_none, true_and, and_true, List.length_nil, List.length_cons, Option.toList_some, Option.toList_none, List.cons_append, List.nil_append, rK_uA, rK_uI, rK_uJ, rK_uP, rP_uA, rP_uI, rP_uJ, rJ_uA, rJ_uI, rJ_uP, rI_uJ, rI_uP, rz_uA, rz_uI, rz_uJ, rz_uP, rs_uA, rs_uI, rs_uJ, rs_uP, Nat.reduceAdd, Nat.reduceMul, Nat.reduceSub, Nat.reduceLeDiff, Nat.reduceLT, Nat.reduceEqDiff, Nat.add_zero, Nat.zero_add, Nat.zero_le, rz_aN, rK_aN, ar_n0, ar_cl, d1, e2]
  · rw [rz_uP, rz_aN, rz_aN]
  · rw [rs_uP, rs_aN, rs_aN]
  · exact ((SQ.aN h _ _ hq).tr (SQ.aN _ _ _ (by rw [rz_aN]; omega))).tr (SQ.uP _ _ _ (by omega))
  · rw [rK_uP, rK_aN, rz_aN, if_neg d1, rK_aN, if_pos rfl]
  · rw [rP_uPs, if_pos rfl]
  · rw [rK_uP, rK_aN, rz_aN, if_pos rfl]
  · rw [rI_uP, rI_aN, rz_aN, if_neg d1, rI_aN, if_pos rfl]; rfl
  · rw [rP_uPo _ _ _ d2, rP_aN, rz_aN, if_pos rfl]
def IW (h0 : pm_H) (h : pm_H) (X : Nat) (i : Nat) : Prop := (rz h = X + 110 + i) ∧ (rs h = rs h0 + 4 * i) ∧ (∀ q, q < X + 109 → SQ h0 h q) ∧ (rK h (X + 109) = (4, 4)) ∧ (∀ j, j < i → rP h (X + 109) j = some (X + 110 + j)) ∧ (∀ j, j < i → rK h (X + 110 + j) = (1, 0))
theorem IW.z {h0 : pm_H} {h : pm_H} {X : Nat} {i : Nat} (x_ : IW h0 h X i) : rz h = X + 110 + i := x_.1
theorem IW.s {h0 : pm_H} {h : pm_H} {X : Nat} {i : Nat} (x_ : IW h0 h X i) : rs h = rs h0 + 4 * i := x_.2.1
theorem IW.o {h0 : pm_H} {h : pm_H} {X : Nat} {i : Nat} (x_ : IW h0 h X i) : ∀ q, q < X + 109 → SQ h0 h q := x_.2.2.1
theorem IW.b {h0 : pm_H} {h : pm_H} {X : Nat} {i : Nat} (x_ : IW h0 h X i) : rK h (X + 109) = (4, 4) := x_.2.2.2.1
theorem IW.p {h0 : pm_H} {h : pm_H} {X : Nat} {i : Nat} (x_ : IW h0 h X i) : ∀ j, j < i → rP h (X + 109) j = some (X + 110 + j) := x_.2.2.2.2.1
theorem IW.x {h0 : pm_H} {h : pm_H} {X : Nat} {i : Nat} (x_ : IW h0 h X i) : ∀ j, j < i → rK h (X + 110 + j) = (1, 0) := x_.2.2.2.2.2
theorem i_waits {h0 : pm_H} {X : Nat} (k0 : rK h0 X = (1, 8)) (k1 : rP h0 X 3 = some (X + 109)) : ∀ m i, i + m = 4 → ∀ h, IW h0 h X i → ∃ h', IW h0 h' X 4 ∧ ∀ Q, pGo 86 47 [some (.ref X), some (.int (nI i))] [] h Q = pGo 86 71 [some (.ref X), some (.int (nI 4))] [] h' Q := by
  intro m
  induction m with
  | zero =>
    intro i hi h t
    have hi : i = 4 := by omega
    subst hi
    refine ⟨h, t, fun Q => ?_⟩
    rw [k86_47]
    simp (disch := omega) only [k86_48, k86_49, if_true, if_false, ite_true, ite_false, not_true_eq_false, not_false_eq_true, true_or, or_true, false_or, or_false, and_self, ok_n0, ok_ni, ok_nr, ok_nl, va_rf_some, va_rf_none, true_and, and_true, List.length_nil, List.length_cons, Option.toList_some, Option.toList_none, List.cons_append, List.nil_append, rK_uA, rK_uI, rK_uJ, rK_uP, rP_uA, rP_uI, rP_uJ, rJ_uA, rJ_uI, rJ_uP, rI_uJ, rI_uP, rz_uA, rz_uI, rz_uJ, rz_uP, rs_uA, rs_uI, rs_uJ, rs_uP, Nat.reduceAdd, Nat.reduceMul, Nat.reduceSub, Nat.reduceLeDiff, Nat.reduceLT, Nat.reduceEqDiff, Nat.add_zero, Nat.zero_add, Nat.zero_le, ar_le, Nat.le_refl]
  | succ m ih =>
    intro i hi h t
    have c1 : ¬ 4 ≤ i := by omega
    have i4 : i < 4 := by omega
    have d2 : ¬ X + 109 = rz h := by rw [t.z]; omega
    have kz : rK (aN h (1, 0) 4) (rz h) = (1, 0) := by rw [rK_aN, if_pos rfl]
    have kb : rK (aN h (1, 0) 4) (X + 109) = (4, 4) := by rw [rK_aN, if_neg d2]; exact t.b
    have kX : rK h X = (1, 8) := by rw [(t.o X (by omega)).1]; exact k0
    have pX : rP h X 3 = some (X + 109) := by rw [(t.o X (by omega)).2.2.2]; exact k1
    have t' : IW h0 (uP (aN h (1, 0) 4) (X + 109) i (some (rz h))) X (i + 1) := by
      refine ⟨by rw [rz_uP, rz_aN, t.z]; omega, by rw [rs_uP, rs_aN, t.s]; omega, fun q hq => ((t.o q hq).tr (SQ.aN _ _ _ (by rw [t.z]; omega))).tr (SQ.uP _ _ _ (by omega)), kb, fun j hj => ?_, fun j hj => ?_⟩
      · rw [rP_uPs]
        by_cases e : j = i
        · rw [if_pos e, t.z, e]
        · rw [if_neg e, rP_aN, if_neg d2]; exact t.p j (by omega)
      · rw [rK_uP, rK_aN]
        by_cases e : j = i
        · rw [if_pos (by rw [t.z]; omega)]
        · rw [if_neg (by rw [t.z]; omega)]; exact t.x j (by omega)
    obtain ⟨h', a, e⟩ := ih (i + 1) (by omega) _ t'
    refine ⟨h', a, fun Q => ?_⟩
    rw [← e Q, k86_47]
    simp (disch := omega) only [k86_0, k86_1, k86_4, k86_5, k86_8, k86_8i, k86_9, k86_12, k86_15, k86_16, k86_19, k86_19i, k86_20, k86_23, k86_26, k86_27, k86_30, k86_30i, k86_31, k86_34, k86_37, k86_38, k86_39, k86_42, k86_45, k86_46, k86_48, k86_49, k86_52, k86_53, k86_56, k86_57, k86_60, k86_60i, k86_61, k86_64, k86_65, k86_68, k86_72, k86_73, k86_76, k86_77, k86_80, k86_80i, k86_81, k86_84, k86_87, s_Box_init, if_true, if_false, ite_true, ite_false, not_true_eq_false, not_false_eq_true, true_or, or_true, false_or, or_false, and_self, ok_n0, ok_ni, ok_nr, ok_nl, va_rf_some, va_rf_none, true_and, and_true, List.length_nil, List.length_cons, Option.toList_some, Option.toList_none, List.cons_append, List.nil_append, rK_uA, rK_uI, rK_uJ, rK_uP, rP_uA, rP_uI, rP_uJ, rJ_uA, rJ_uI, rJ_uP, rI_uJ, rI_uP, rz_uA, rz_uI, rz_uJ, rz_uP, rs_uA, rs_uI, rs_uJ, rs_uP, Nat.reduceAdd, Nat.reduceMul, Nat.reduceSub, Nat.reduceLeDiff, Nat.reduceLT, Nat.reduceEqDiff, Nat.add_zero, Nat.zero_add, Nat.zero_le, kX, pX, t.b, kz, kb, ar_le, ar_add, ar_okr, ar_cl, c1, i4, el_4]
theorem n_Pane (h : pm_H) : ∃ h', (∀ Q, pGo 86 0 [some (.ref (rz h)), none] [] (aN h (1, 8) 6) Q = Q (none, h')) ∧ NW h h' 115 2024 ∧ XK h' (rz h) ∧ rP h' (rz h) 0 = some (rz h + 1) ∧ rP h' (rz h) 1 = some (rz h + 54) ∧ rI h' (rz h) 4 = nI 0 ∧ DV h' (rz h + 1) iniV 1 (fun _ => 0) (fun _ => 0) ∧ DK h' (rz h + 54) ∧ (∀ k, rI h' (rz h + 107) k = nI 0) ∧ ∀ k, rP h' (rz h + 108) k = none := by
  generalize hz : rz h = X
  have e4 : 4 ≤ 100000 := by omega
  have z0 : rz (aN h (1, 8) 6) = X + 1 := by rw [rz_aN, hz]
  have K0 : rK (aN h (1, 8) 6) X = (1, 8) := by rw [rK_aN, if_pos hz.symm]
  obtain ⟨h1, x1, ⟨w1, w2, w3⟩, D1⟩ := n_Desk (aN h (1, 8) 6)
  rw [z0] at x1 w1 w3 D1
  generalize hh2 : uP h1 X 0 (some (X + 1)) = h2
  have z2 : rz h2 = X + 54 := by rw [← hh2, rz_uP, w1]
  have q2 : ∀ q, ¬ q = X → SQ h1 h2 q := fun q hq => by rw [← hh2]; exact SQ.uP _ _ _ hq
  have vX1 := w3 X (by omega)
  have K1 : rK h1 X = (1, 8) := by rw [vX1.1]; exact K0
  have K2 : rK h2 X = (1, 8) := by rw [← hh2, rK_uP]; exact K1
  obtain ⟨h3, x3, ⟨y1, y2, y3⟩, D3⟩ := n_Desk h2
  rw [z2] at x3 y1 y3 D3
  generalize hh4 : uP h3 X 1 (some (X + 54)) = h4
  have z4 : rz h4 = X + 107 := by rw [← hh4, rz_uP, y1]
  have q4 : ∀ q, ¬ q = X → SQ h3 h4 q := fun q hq => by rw [← hh4]; exact SQ.uP _ _ _ hq
  have vX3 := y3 X (by omega)
  have K3 : rK h3 X = (1, 8) := by rw [vX3.1]; exact K2
  have K4 : rK h4 X = (1, 8) := by rw [← hh4, rK_uP]; exact K3
  obtain ⟨h5, x5, ⟨u1, u2, u3⟩, HK5, I5, P5⟩ := n_Hist h4
  rw [z4] at x5 u1 u3 HK5 I5 P5
  generalize hh6 : uP h5 X 2 (some (X + 107)) = h6
  have z6 : rz h6 = X + 109 := by rw [← hh6, rz_uP, u1]
  have q6 : ∀ q, ¬ q = X → SQ h5 h6 q := fun q hq => by rw [← hh6]; exact SQ.uP _ _ _ hq
  have vX5 := u3 X (by omega)
  have K5 : rK h5 X = (1, 8) := by rw [vX5.1]; exact K4
  have K6 : rK h6 X = (1, 8) := by rw [← hh6, rK_uP]; exact K5
  generalize hh7 : uP (aN h6 (4, 4) 4) X 3 (some (X + 109)) = h7
  have z7 : rz h7 = X + 110 := by rw [← hh7, rz_uP, rz_aN, z6]
  have q7 : ∀ q, ¬ q = X → q < X + 109 → SQ h6 h7 q := fun q hq h9 => by rw [← hh7]; exact (SQ.aN _ _ _ (by omega)).tr (SQ.uP _ _ _ hq)
  have K7 : rK h7 X = (1, 8) := by rw [← hh7, rK_uP, rK_aN, if_neg (by omega)]; exact K6
  have K7a : rK (aN h6 (4, 4) 4) X = (1, 8) := by rw [rK_aN, if_neg (by omega)]; exact K6
  have K79 : rK h7 (X + 109) = (4, 4) := by rw [← hh7, rK_uP, rK_aN, if_pos (by omega)]
  have P7 : ∀ j, rP h7 X j = if j = 3 then some (X + 109) else if j = 2 then some (X + 107) else if j = 1 then some (X + 54) else if j = 0 then some (X + 1) else none := fun j => by
    rw [← hh7, rP_uPs]
    by_cases e3 : j = 3
    · rw [if_pos e3, if_pos e3]
    · rw [if_neg e3, if_neg e3, rP_aN, if_neg (by omega), ← hh6, rP_uPs]
      by_cases e2 : j = 2
      · rw [if_pos e2, if_pos e2]
      · rw [if_neg e2, if_neg e2, vX5.2.2.2, ← hh4, rP_uPs]
        by_cases e1 : j = 1
        · rw [if_pos e1, if_pos e1]
        · rw [if_neg e1, if_neg e1, vX3.2.2.2, ← hh2, rP_uPs]
          by_cases e0 : j = 0
          · rw [if_pos e0, if_pos e0]
          · rw [if_neg e0, if_neg e0, vX1.2.2.2, rP_aN, if_pos hz.symm]
  obtain ⟨h8, t8, e8⟩ := i_waits (h0 := h7) (X := X) K7 (by rw [P7, if_pos rfl]) 4 0 (by omega) h7 ⟨z7, rfl, fun q _ => SQ.rf _ _, K79, fun j hj => absurd hj (by omega), fun j hj => absurd hj (by omega)⟩
  have vX8 := t8.o X (by omega)
  have K8 : rK h8 X = (1, 8) := by rw [vX8.1]; exact K7
  have z8 : rz h8 = X + 114 := by rw [t8.z]
  generalize hh9 : aN (uI h8 X 4 (nI 0)) (1, 0) 4 = h9
  have z9 : rz h9 = X + 115 := by rw [← hh9, rz_aN, rz_uI, z8]
  have K9 : rK h9 X = (1, 8) := by rw [← hh9, rK_aN, rz_uI, if_neg (by omega), rK_uI]; exact K8
  generalize hh10 : uP h9 X 5 (some (X + 114)) = h10
  have z10 : rz h10 = X + 115 := by rw [← hh10, rz_uP, z9]
  have q10 : ∀ q, ¬ q = X → q < X + 114 → SQ h8 h10 q := fun q hq h4 => by rw [← hh10, ← hh9]; exact ((SQ.uI _ _ _ hq).tr (SQ.aN _ _ _ (by rw [rz_uI]; omega))).tr (SQ.uP _ _ _ hq)
  have P10 : ∀ j, rP h10 X j = if j = 5 then some (X + 114) else rP h7 X j := fun j => by
    rw [← hh10, rP_uPs]
    by_cases e : j = 5
    · rw [if_pos e, if_pos e]
    · rw [if_neg e, if_neg e, ← hh9, rP_aN, rz_uI, if_neg (by omega), rP_uI, vX8.2.2.2]
  have A : ∀ q, ¬ q = X → q < X + 109 → SQ h7 h10 q := fun q e1 e2 => (t8.o q e2).tr (q10 q e1 (by omega))
  have B : ∀ q, ¬ q = X → q < X + 109 → SQ h5 h10 q := fun q e1 e2 => ((q6 q e1).tr (q7 q e1 e2)).tr (A q e1 e2)
  have Cc : ∀ q, ¬ q = X → q < X + 107 → SQ h3 h10 q := fun q e1 e2 => ((q4 q e1).tr (u3 q e2)).tr (B q e1 (by omega))
  have Dd : ∀ q, ¬ q = X → q < X + 54 → SQ h1 h10 q := fun q e1 e2 => ((q2 q e1).tr (y3 q e2)).tr (Cc q e1 (by omega))
  refine ⟨h10, fun Q => ?_, ⟨?_, ?_, fun q hq => ?_⟩, ⟨?_, ?_, ?_, ?_, ?_, ?_, ?_, fun j hj => ?_, fun j hj => ?_, ?_, ?_⟩, ?_, ?_, ?_, ?_, ?_, fun k => ?_, fun k => ?_⟩
  · rw [k86_0]
    simp (disch := omega) only [k86_1, k86_4, k86_5, k86_8, k86_9, k86_12, k86_15, k86_16, k86_19, k86_20, k86_23, k86_26, k86_27, k86_30, k86_31, k86_34, k86_37, k86_38, k86_39, k86_42, k86_45, k86_46, x1, x3, x5, if_true, if_false, ite_true, ite_false, not_true_eq_false, not_false_eq_true, true_or, or_true, false_or, or_false, and_self, ok_n0, ok_ni, ok_nr, ok_nl, va_rf_some, va_rf_none, true_and, and_true, List.length_nil, List.length_cons, Option.toList_some, Option.toList_none, List.cons_append, List.nil_append, rK_uA, rK_uI, rK_uJ, rK_uP, rP_uA, rP_uI, rP_uJ, rJ_uA, rJ_uI, rJ_uP, rI_uJ, rI_uP, rz_uA, rz_uI, rz_uJ, rz_uP, rs_uA, rs_uI, rs_uJ, rs_uP, Nat.reduceAdd, Nat.reduceMul, Nat.reduceSub, Nat.reduceLeDiff, Nat.reduceLT, Nat.reduceEqDiff, Nat.add_zero, Nat.zero_add, Nat.zero_le, z0, K1, hh2, z2, K3, hh4, z4, K5, hh6, z6, K7a, hh7, ar_n0, ar_cl, e4, w1, y1, u1, show X + 1 + 53 = X + 54 from rfl, show X + 54 + 53 = X + 107 from rfl, show X + 107 + 2 = X + 109 from rfl, e8 Q]
    rw [k86_71]
    simp (disch := omega) only [k86_1, k86_4, k86_5, k86_8, k86_8i, k86_9, k86_12, k86_15, k86_16, k86_19, k86_19i, k86_20, k86_23, k86_26, k86_27, k86_30, k86_30i, k86_31, k86_34, k86_37, k86_38, k86_39, k86_42, k86_45, k86_46, k86_48, k86_49, k86_52, k86_53, k86_56, k86_57, k86_60, k86_60i, k86_61, k86_64, k86_65, k86_68, k86_72, k86_73, k86_76, k86_77, k86_80, k86_80i, k86_81, k86_84, k86_87, s_Box_init, if_true, if_false, ite_true, ite_false, not_true_eq_false, not_false_eq_true, true_or, or_true, false_or, or_false, and_self, ok_n0, ok_ni, ok_nr, ok_nl, va_rf_some, va_rf_none, true_and, and_true, List.length_nil, List.length_cons, Option.toList_some, Option.toList_none, List.cons_append, List.nil_append, rK_uA, rK_uI, rK_uJ, rK_uP, rP_uA, rP_uI, rP_uJ, rJ_uA, rJ_uI, rJ_uP, rI_uJ, rI_uP, rz_uA, rz_uI, rz_uJ, rz_uP, rs_uA, rs_uI, rs_uJ, rs_uP, Nat.reduceAdd, Nat.reduceMul, Nat.reduceSub, Nat.reduceLeDiff, Nat.reduceLT, Nat.reduceEqDiff, Nat.add_zero, Nat.zero_add, Nat.zero_le, K8, hh9, rz_uI, z8, K9, hh10]
  · rw [z10, hz]
  · rw [← hh10, rs_uP, ← hh9, rs_aN, rs_uI, t8.s, ← hh7, rs_uP, rs_aN, ← hh6, rs_uP, u2, ← hh4, rs_uP, y2, ← hh2, rs_uP, w2, rs_aN]
  · exact ((SQ.aN h _ _ (by omega)).tr (w3 q (by omega))).tr (Dd q (by omega) (by omega))
  · rw [← hh10, rK_uP]; exact K9
  · rw [P10, P7]; rfl
  · rw [(B (X + 107) (by omega) (by omega)).1]; exact HK5.1
  · rw [(B (X + 107) (by omega) (by omega)).2.2.2]; exact HK5.2.1
  · rw [(B (X + 108) (by omega) (by omega)).1]; exact HK5.2.2
  · rw [P10, P7]; rfl
  · rw [(q10 (X + 109) (by omega) (by omega)).1]; exact t8.b
  · rw [(q10 (X + 109) (by omega) (by omega)).2.2.2]; exact t8.p j hj
  · rw [(q10 (X + 110 + j) (by omega) (by omega)).1]; exact t8.x j hj
  · rw [P10, if_pos rfl]
  · rw [← hh10, rK_uP, ← hh9, rK_aN, rz_uI, if_pos (by omega)]
  · rw [P10, P7]; rfl
  · rw [P10, P7]; rfl
  · rw [← hh10, rI_uP, ← hh9, rI_aN, rz_uI, if_neg (by omega), rI_uI, if_pos rfl, pk_us]
  · exact D1.cgl (by omega) (fun q e1 e2 => Dd q (by omega) (by omega))
  · exact D3.k.cgl (fun q e1 e2 => ⟨(Cc q (by omega) (by omega)).1, (Cc q (by omega) (by omega)).2.2.2⟩)
  · rw [(B (X + 107) (by omega) (by omega)).2.1]; exact I5 k
  · rw [(B (X + 108) (by omega) (by omega)).2.2.2]; exact P5 k
/-! the model's -/
def mF (j : Nat) : Nat := [0, 4, 6, 7, 8, 9, 10, 11, 14, 15, 16, 17, 18, 19, 21].getD j 99
def mG (j : Nat) : Nat := [41160, 16, 9, 60, 60, 60, 60, 60, 64, 64, 64, 64, 64, 64, 4].getD j 0
theorem mF_ne : ∀ i, i < 15 → ∀ j, j < i → ¬ mF i = mF j := by decide +kernel
def AR (h0 : pm_H) (h : pm_H) (M : Nat) (i : Nat) (S : Nat) : Prop := (rz h = M + 1 + i) ∧ (rs h = rs h0 + 23 + S) ∧ (∀ q, q < M → SQ h0 h q) ∧ (rK h M = (1, 9)) ∧ (∀ j, j < i → rP h M (mF j) = some (M + 1 + j) ∧ rK h (M + 1 + j) = (2, mG j) ∧ ∀ k, rI h (M + 1 + j) k = 0) ∧ (∀ k, rI h M k = 0)
theorem AR.z {h0 : pm_H} {h : pm_H} {M : Nat} {i : Nat} {S : Nat} (x_ : AR h0 h M i S) : rz h = M + 1 + i := x_.1
theorem AR.s {h0 : pm_H} {h : pm_H} {M : Nat} {i : Nat} {S : Nat} (x_ : AR h0 h M i S) : rs h = rs h0 + 23 + S := x_.2.1
theorem AR.o {h0 : pm_H} {h : pm_H} {M : Nat} {i : Nat} {S : Nat} (x_ : AR h0 h M i S) : ∀ q, q < M → SQ h0 h q := x_.2.2.1
theorem AR.k {h0 : pm_H} {h : pm_H} {M : Nat} {i : Nat} {S : Nat} (x_ : AR h0 h M i S) : rK h M = (1, 9) := x_.2.2.2.1
theorem AR.a {h0 : pm_H} {h : pm_H} {M : Nat} {i : Nat} {S : Nat} (x_ : AR h0 h M i S) : ∀ j, j < i → rP h M (mF j) = some (M + 1 + j) ∧ rK h (M + 1 + j) = (2, mG j) ∧ ∀ k, rI h (M + 1 + j) k = 0 := x_.2.2.2.2.1
theorem AR.n {h0 : pm_H} {h : pm_H} {M : Nat} {i : Nat} {S : Nat} (x_ : AR h0 h M i S) : ∀ k, rI h M k = 0 := x_.2.2.2.2.2
theorem AR.st {h0 h : pm_H} {M i S f g : Nat} (t : AR h0 h M i S) (hi : i < 15) (hf : f = mF i) (hg : g = mG i) : AR h0 (uP (aN h (2, g) g) M f (some (rz h))) M (i + 1) (S + g) := by
  have d : ¬ M = rz h := by rw [t.z]; omega
  subst hf
  subst hg
  refine ⟨by rw [rz_uP, rz_aN, t.z]; omega, by rw [rs_uP, rs_aN, t.s]; omega, fun q hq => ((t.o q hq).tr (SQ.aN _ _ _ (by rw [t.z]; omega))).tr (SQ.uP _ _ _ (by omega)), ?_, fun j hj => ?_, fun k => ?_⟩
  · rw [rK_uP, rK_aN, if_neg d]; exact t.k
  · rw [rP_uPs, rK_uP, rI_uP, rK_aN, rI_aN]
    by_cases e : j = i
    · subst e
      rw [if_pos rfl, if_pos (by rw [t.z]), if_pos (by rw [t.z]), t.z]
      exact ⟨rfl, rfl, fun _ => rfl⟩
    · rw [if_neg (fun z => mF_ne i hi j (by omega) z.symm), rP_aN, if_neg d, if_neg (by rw [t.z]; omega), if_neg (by rw [t.z]; omega)]
      exact t.a j (by omega)
  · rw [rI_uP, rI_aN, if_neg d]; exact t.n k
theorem AR.kk {h0 h : pm_H} {M i S : Nat} (t : AR h0 h M i S) (kd : Nat × Nat) (n : Nat) : rK (aN h kd n) M = (1, 9) := by
  rw [rK_aN, if_neg (by rw [t.z]; omega)]; exact t.k
theorem i_mh {h : pm_H} {M : Nat} {u : Nat → Int32} (k0 : rK h M = (1, 9)) (k1 : rP h M 0 = some (M + 1)) (k2 : rK h (M + 1) = (2, 41160)) (Q : Option Value × pm_H → Prop) : ∀ m i, i + m = 8 → pGo 119 161 [some (.ref M), some (.int (nI i))] [] (uA h (M + 1) (fil u 26 (fun k => nI (k + 1)) i)) Q = pGo 119 185 [some (.ref M), some (.int (nI 8))] [] (uA h (M + 1) (fil u 26 (fun k => nI (k + 1)) 8)) Q := by
  intro m
  induction m with
  | zero =>
    intro i hi
    have hi : i = 8 := by omega
    subst hi
    rw [k119_161]
    simp (disch := omega) only [k119_162, k119_164, if_true, if_false, ite_true, ite_false, not_true_eq_false, not_false_eq_true, true_or, or_true, false_or, or_false, and_self, ok_n0, ok_ni, ok_nr, ok_nl, va_rf_some, va_rf_none, true_and, and_true, List.length_nil, List.length_cons, Option.toList_some, Option.toList_none, List.cons_append, List.nil_append, rK_uA, rK_uI, rK_uJ, rK_uP, rP_uA, rP_uI, rP_uJ, rJ_uA, rJ_uI, rJ_uP, rI_uJ, rI_uP, rz_uA, rz_uI, rz_uJ, rz_uP, rs_uA, rs_uI, rs_uJ, rs_uP, Nat.reduceAdd, Nat.reduceMul, Nat.reduceSub, Nat.reduceLeDiff, Nat.reduceLT, Nat.reduceEqDiff, Nat.add_zero, Nat.zero_add, Nat.zero_le, ar_le, Nat.le_refl]
  | succ m ih =>
    intro i hi
    have c1 : ¬ 8 ≤ i := by omega
    have c2 : 26 + i < 41160 := by omega
    have e1 := fil_s u 26 (fun k => nI (k + 1)) i
    rw [k119_161]
    simp (disch := omega) only [k119_0, k119_1, k119_4, k119_5, k119_7, k119_9, k119_12, k119_13, k119_15, k119_17, k119_20, k119_21, k119_23, k119_25, k119_28, k119_29, k119_31, k119_33, k119_36, k119_37, k119_39, k119_41, k119_44, k119_45, k119_47, k119_49, k119_52, k119_53, k119_55, k119_57, k119_60, k119_61, k119_63, k119_65, k119_68, k119_69, k119_71, k119_73, k119_76, k119_77, k119_79, k119_81, k119_84, k119_85, k119_87, k119_89, k119_92, k119_93, k119_95, k119_97, k119_100, k119_101, k119_103, k119_105, k119_108, k119_109, k119_111, k119_113, k119_116, k119_117, k119_118, k119_120, k119_123, k119_124, k119_127, k119_128, k119_129, k119_130, k119_131, k119_134, k119_136, k119_139, k119_140, k119_141, k119_144, k119_146, k119_149, k119_150, k119_151, k119_154, k119_156, k119_158, k119_159, k119_160, k119_162, k119_164, k119_167, k119_168, k119_171, k119_173, k119_174, k119_175, k119_176, k119_177, k119_178, k119_179, k119_182, k119_186, k119_188, k119_190, k119_193, k119_194, k119_197, k119_198, k119_199, k119_202, k119_203, k119_204, k119_205, k119_206, k119_207, k119_210, k119_211, k119_212, k119_215, k119_216, k119_217, k119_220, k119_221, k119_222, k119_225, k119_226, k119_227, k119_230, k119_231, k119_232, k119_233, k119_234, k119_237, k119_240, if_true, if_false, ite_true, ite_false, not_true_eq_false, not_false_eq_true, true_or, or_true, false_or, or_false, and_self, ok_n0, ok_ni, ok_nr, ok_nl, va_rf_some, va_rf_none, true_and, and_true, List.length_nil, List.length_cons, Option.toList_some, Option.toList_none, List.cons_append, List.nil_append, rK_uA, rK_uI, rK_uJ, rK_uP, rP_uA, rP_uI, rP_uJ, rJ_uA, rJ_uI, rJ_uP, rI_uJ, rI_uP, rz_uA, rz_uI, rz_uJ, rz_uP, rs_uA, rs_uI, rs_uJ, rs_uP, Nat.reduceAdd, Nat.reduceMul, Nat.reduceSub, Nat.reduceLeDiff, Nat.reduceLT, Nat.reduceEqDiff, Nat.add_zero, Nat.zero_add, Nat.zero_le, k0, k1, k2, ar_le, ar_add, ar_okw, ar_cl, c1, c2, uI_uA, e1]
    exact ih (i + 1) (by omega)
theorem i_mr {h : pm_H} {M : Nat} {u : Nat → Int32} (k : MK h M) (k3 : rI h M 3 = nI 0) (Q : Option Value × pm_H → Prop) : ∀ m i, i + m = 9 → pGo 119 187 [some (.ref M), some (.int (nI i))] [] (uA h (M + 1) (iniR u i)) Q = Q (none, uA h (M + 1) (iniR u 9)) := by
  have d1 : ¬ M = M + 1 := by omega
  intro m
  induction m with
  | zero =>
    intro i hi
    have hi : i = 9 := by omega
    subst hi
    rw [k119_187]
    simp (disch := omega) only [k119_0, k119_1, k119_4, k119_5, k119_7, k119_9, k119_12, k119_13, k119_15, k119_17, k119_20, k119_21, k119_23, k119_25, k119_28, k119_29, k119_31, k119_33, k119_36, k119_37, k119_39, k119_41, k119_44, k119_45, k119_47, k119_49, k119_52, k119_53, k119_55, k119_57, k119_60, k119_61, k119_63, k119_65, k119_68, k119_69, k119_71, k119_73, k119_76, k119_77, k119_79, k119_81, k119_84, k119_85, k119_87, k119_89, k119_92, k119_93, k119_95, k119_97, k119_100, k119_101, k119_103, k119_105, k119_108, k119_109, k119_111, k119_113, k119_116, k119_117, k119_118, k119_120, k119_123, k119_124, k119_127, k119_128, k119_129, k119_130, k119_131, k119_134, k119_136, k119_139, k119_140, k119_141, k119_144, k119_146, k119_149, k119_150, k119_151, k119_154, k119_156, k119_158, k119_159, k119_160, k119_162, k119_164, k119_167, k119_168, k119_171, k119_173, k119_174, k119_175, k119_176, k119_177, k119_178, k119_179, k119_182, k119_186, k119_188, k119_190, k119_193, k119_194, k119_197, k119_198, k119_199, k119_202, k119_203, k119_204, k119_205, k119_206, k119_207, k119_210, k119_211, k119_212, k119_215, k119_216, k119_217, k119_220, k119_221, k119_222, k119_225, k119_226, k119_227, k119_230, k119_231, k119_232, k119_233, k119_234, k119_237, k119_240, if_true, if_false, ite_true, ite_false, not_true_eq_false, not_false_eq_true, true_or, or_true, false_or, or_false, and_self, ok_n0, ok_ni, ok_nr, ok_nl, va_rf_some, va_rf_none, true_and, and_true, List.length_nil, List.length_cons, Option.toList_some, Option.toList_none, List.cons_append, List.nil_append, rK_uA, rK_uI, rK_uJ, rK_uP, rP_uA, rP_uI, rP_uJ, rJ_uA, rJ_uI, rJ_uP, rI_uJ, rI_uP, rz_uA, rz_uI, rz_uJ, rz_uP, rs_uA, rs_uI, rs_uJ, rs_uP, Nat.reduceAdd, Nat.reduceMul, Nat.reduceSub, Nat.reduceLeDiff, Nat.reduceLT, Nat.reduceEqDiff, Nat.add_zero, Nat.zero_add, Nat.zero_le, ar_le, Nat.le_refl]
  | succ m ih =>
    intro i hi
    have c1 : ¬ 9 ≤ i := by omega
    have c2 : 35 + 65 * i + 1 < 41160 := by omega
    have c3 : 35 + 65 * i + 2 < 41160 := by omega
    have c4 : 35 + 65 * i + 4 < 41160 := by omega
    have sp : ∀ g : Nat → Int32, ∀ Q, pGo 120 0 [some (.ref M), some (.int (nI i))] [] (uA h (M + 1) g) Q = Q (some (.int (nI (0 + (35 + 65 * i)))), uA h (M + 1) g) := fun g Q => s_space (h := uA h (M + 1) g) (M := M) (s := 0) (v := fun e => g (0 + e)) ⟨k, by rw [rI_uA, if_neg d1]; exact k3, by omega, fun e => by rw [rI_uA, if_pos rfl]⟩ i Q
    simp only [Nat.zero_add] at sp
    rw [k119_187]
    simp (disch := omega) only [k119_0, k119_1, k119_4, k119_5, k119_7, k119_9, k119_12, k119_13, k119_15, k119_17, k119_20, k119_21, k119_23, k119_25, k119_28, k119_29, k119_31, k119_33, k119_36, k119_37, k119_39, k119_41, k119_44, k119_45, k119_47, k119_49, k119_52, k119_53, k119_55, k119_57, k119_60, k119_61, k119_63, k119_65, k119_68, k119_69, k119_71, k119_73, k119_76, k119_77, k119_79, k119_81, k119_84, k119_85, k119_87, k119_89, k119_92, k119_93, k119_95, k119_97, k119_100, k119_101, k119_103, k119_105, k119_108, k119_109, k119_111, k119_113, k119_116, k119_117, k119_118, k119_120, k119_123, k119_124, k119_127, k119_128, k119_129, k119_130, k119_131, k119_134, k119_136, k119_139, k119_140, k119_141, k119_144, k119_146, k119_149, k119_150, k119_151, k119_154, k119_156, k119_158, k119_159, k119_160, k119_162, k119_164, k119_167, k119_168, k119_171, k119_173, k119_174, k119_175, k119_176, k119_177, k119_178, k119_179, k119_182, k119_186, k119_188, k119_190, k119_193, k119_194, k119_197, k119_198, k119_199, k119_202, k119_203, k119_204, k119_205, k119_206, k119_207, k119_210, k119_211, k119_212, k119_215, k119_216, k119_217, k119_220, k119_221, k119_222, k119_225, k119_226, k119_227, k119_230, k119_231, k119_232, k119_233, k119_234, k119_237, k119_240, sp, if_true, if_false, ite_true, ite_false, not_true_eq_false, not_false_eq_true, true_or, or_true, false_or, or_false, and_self, ok_n0, ok_ni, ok_nr, ok_nl, va_rf_some, va_rf_none, true_and, and_true, List.length_nil, List.length_cons, Option.toList_some, Option.toList_none, List.cons_append, List.nil_append, rK_uA, rK_uI, rK_uJ, rK_uP, rP_uA, rP_uI, rP_uJ, rJ_uA, rJ_uI, rJ_uP, rI_uJ, rI_uP, rz_uA, rz_uI, rz_uJ, rz_uP, rs_uA, rs_uI, rs_uJ, rs_uP, Nat.reduceAdd, Nat.reduceMul, Nat.reduceSub, Nat.reduceLeDiff, Nat.reduceLT, Nat.reduceEqDiff, Nat.add_zero, Nat.zero_add, Nat.zero_le, k.1, k.2.1, k.2.2.1, ar_le, ar_add, ar_okw, ar_cl, c1, c2, c3, c4, uI_uA]
    exact ih (i + 1) (by omega)
theorem m_al (h : pm_H) {g0 : pm_H} {M : Nat} (t0 : AR h g0 M 0 0) : ∃ g S, S = 41873 ∧ (∀ st Q, pGo 119 4 [some (.ref M), none] st g0 Q = pGo 119 123 [some (.ref M), none] st g Q) ∧ AR h g M 15 S := by
  have b : ∀ n, n < 41161 → n ≤ 100000 := fun n hn => by omega
  have t1 := t0.st (f := 0) (g := 41160) (by omega) (by rfl) (by rfl)
  generalize hg1 : uP (aN g0 (2, 41160) 41160) M 0 (some (rz g0)) = g1 at t1
  have y0 : ∀ st Q, pGo 119 4 [some (.ref M), none] st g0 Q = pGo 119 12 [some (.ref M), none] st g1 Q := fun st Q => by
    simp (disch := omega) only [k119_4, k119_5, k119_7, k119_9, if_true, if_false, ite_true, ite_false, not_true_eq_false, not_false_eq_true, true_or, or_true, false_or, or_false, and_self, ok_n0, ok_ni, ok_nr, ok_nl, va_rf_some, va_rf_none, true_and, and_true, List.length_nil, List.length_cons, Option.toList_some, Option.toList_none, List.cons_append, List.nil_append, rK_uA, rK_uI, rK_uJ, rK_uP, rP_uA, rP_uI, rP_uJ, rJ_uA, rJ_uI, rJ_uP, rI_uJ, rI_uP, rz_uA, rz_uI, rz_uJ, rz_uP, rs_uA, rs_uI, rs_uJ, rs_uP, Nat.reduceAdd, Nat.reduceMul, Nat.reduceSub, Nat.reduceLeDiff, Nat.reduceLT, Nat.reduceEqDiff, Nat.add_zero, Nat.zero_add, Nat.zero_le, t0.kk, ar_n0, ar_cl, b, hg1]
  have t2 := t1.st (f := 4) (g := 16) (by omega) (by rfl) (by rfl)
  generalize hg2 : uP (aN g1 (2, 16) 16) M 4 (some (rz g1)) = g2 at t2
  have y1 : ∀ st Q, pGo 119 12 [some (.ref M), none] st g1 Q = pGo 119 20 [some (.ref M), none] st g2 Q := fun st Q => by
    simp (disch := omega) only [k119_12, k119_13, k119_15, k119_17, if_true, if_false, ite_true, ite_false, not_true_eq_false, not_false_eq_true, true_or, or_true, false_or, or_false, and_self, ok_n0, ok_ni, ok_nr, ok_nl, va_rf_some, va_rf_none, true_and, and_true, List.length_nil, List.length_cons, Option.toList_some, Option.toList_none, List.cons_append, List.nil_append, rK_uA, rK_uI, rK_uJ, rK_uP, rP_uA, rP_uI, rP_uJ, rJ_uA, rJ_uI, rJ_uP, rI_uJ, rI_uP, rz_uA, rz_uI, rz_uJ, rz_uP, rs_uA, rs_uI, rs_uJ, rs_uP, Nat.reduceAdd, Nat.reduceMul, Nat.reduceSub, Nat.reduceLeDiff, Nat.reduceLT, Nat.reduceEqDiff, Nat.add_zero, Nat.zero_add, Nat.zero_le, t1.kk, ar_n0, ar_cl, b, hg2]
  have t3 := t2.st (f := 6) (g := 9) (by omega) (by rfl) (by rfl)
  generalize hg3 : uP (aN g2 (2, 9) 9) M 6 (some (rz g2)) = g3 at t3
  have y2 : ∀ st Q, pGo 119 20 [some (.ref M), none] st g2 Q = pGo 119 28 [some (.ref M), none] st g3 Q := fun st Q => by
    simp (disch := omega) only [k119_20, k119_21, k119_23, k119_25, if_true, if_false, ite_true, ite_false, not_true_eq_false, not_false_eq_true, true_or, or_true, false_or, or_false, and_self, ok_n0, ok_ni, ok_nr, ok_nl, va_rf_some, va_rf_none, true_and, and_true, List.length_nil, List.length_cons, Option.toList_some, Option.toList_none, List.cons_append, List.nil_append, rK_uA, rK_uI, rK_uJ, rK_uP, rP_uA, rP_uI, rP_uJ, rJ_uA, rJ_uI, rJ_uP, rI_uJ, rI_uP, rz_uA, rz_uI, rz_uJ, rz_uP, rs_uA, rs_uI, rs_uJ, rs_uP, Nat.reduceAdd, Nat.reduceMul, Nat.reduceSub, Nat.reduceLeDiff, Nat.reduceLT, Nat.reduceEqDiff, Nat.add_zero, Nat.zero_add, Nat.zero_le, t2.kk, ar_n0, ar_cl, b, hg3]
  have t4 := t3.st (f := 7) (g := 60) (by omega) (by rfl) (by rfl)
  generalize hg4 : uP (aN g3 (2, 60) 60) M 7 (some (rz g3)) = g4 at t4
  have y3 : ∀ st Q, pGo 119 28 [some (.ref M), none] st g3 Q = pGo 119 36 [some (.ref M), none] st g4 Q := fun st Q => by
    simp (disch := omega) only [k119_28, k119_29, k119_31, k119_33, if_true, if_false, ite_true, ite_false, not_true_eq_false, not_false_eq_true, true_or, or_true, false_or, or_false, and_self, ok_n0, ok_ni, ok_nr, ok_nl, va_rf_some, va_rf_none, true_and, and_true, List.length_nil, List.length_cons, Option.toList_some, Option.toList_none, List.cons_append, List.nil_append, rK_uA, rK_uI, rK_uJ, rK_uP, rP_uA, rP_uI, rP_uJ, rJ_uA, rJ_uI, rJ_uP, rI_uJ, rI_uP, rz_uA, rz_uI, rz_uJ, rz_uP, rs_uA, rs_uI, rs_uJ, rs_uP, Nat.reduceAdd, Nat.reduceMul, Nat.reduceSub, Nat.reduceLeDiff, Nat.reduceLT, Nat.reduceEqDiff, Nat.add_zero, Nat.zero_add, Nat.zero_le, t3.kk, ar_n0, ar_cl, b, hg4]
  have t5 := t4.st (f := 8) (g := 60) (by omega) (by rfl) (by rfl)
  generalize hg5 : uP (aN g4 (2, 60) 60) M 8 (some (rz g4)) = g5 at t5
  have y4 : ∀ st Q, pGo 119 36 [some (.ref M), none] st g4 Q = pGo 119 44 [some (.ref M), none] st g5 Q := fun st Q => by
    simp (disch := omega) only [k119_36, k119_37, k119_39, k119_41, if_true, if_false, ite_true, ite_false, not_true_eq_false, not_false_eq_true, true_or, or_true, false_or, or_false, and_self, ok_n0, ok_ni, ok_nr, ok_nl, va_rf_some, va_rf_none, true_and, and_true, List.length_nil, List.length_cons, Option.toList_some, Option.toList_none, List.cons_append, List.nil_append, rK_uA, rK_uI, rK_uJ, rK_uP, rP_uA, rP_uI, rP_uJ, rJ_uA, rJ_uI, rJ_uP, rI_uJ, rI_uP, rz_uA, rz_uI, rz_uJ, rz_uP, rs_uA, rs_uI, rs_uJ, rs_uP, Nat.reduceAdd, Nat.reduceMul, Nat.reduceSub, Nat.reduceLeDiff, Nat.reduceLT, Nat.reduceEqDiff, Nat.add_zero, Nat.zero_add, Nat.zero_le, t4.kk, ar_n0, ar_cl, b, hg5]
  have t6 := t5.st (f := 9) (g := 60) (by omega) (by rfl) (by rfl)
  generalize hg6 : uP (aN g5 (2, 60) 60) M 9 (some (rz g5)) = g6 at t6
  have y5 : ∀ st Q, pGo 119 44 [some (.ref M), none] st g5 Q = pGo 119 52 [some (.ref M), none] st g6 Q := fun st Q => by
    simp (disch := omega) only [k119_44, k119_45, k119_47, k119_49, if_true, if_false, ite_true, ite_false, not_true_eq_false, not_false_eq_true, true_or, or_true, false_or, or_false, and_self, ok_n0, ok_ni, ok_nr, ok_nl, va_rf_some, va_rf_none, true_and, and_true, List.length_nil, List.length_cons, Option.toList_some, Option.toList_none, List.cons_append, List.nil_append, rK_uA, rK_uI, rK_uJ, rK_uP, rP_uA, rP_uI, rP_uJ, rJ_uA, rJ_uI, rJ_uP, rI_uJ, rI_uP, rz_uA, rz_uI, rz_uJ, rz_uP, rs_uA, rs_uI, rs_uJ, rs_uP, Nat.reduceAdd, Nat.reduceMul, Nat.reduceSub, Nat.reduceLeDiff, Nat.reduceLT, Nat.reduceEqDiff, Nat.add_zero, Nat.zero_add, Nat.zero_le, t5.kk, ar_n0, ar_cl, b, hg6]
  have t7 := t6.st (f := 10) (g := 60) (by omega) (by rfl) (by rfl)
  generalize hg7 : uP (aN g6 (2, 60) 60) M 10 (some (rz g6)) = g7 at t7
  have y6 : ∀ st Q, pGo 119 52 [some (.ref M), none] st g6 Q = pGo 119 60 [some (.ref M), none] st g7 Q := fun st Q => by
    simp (disch := omega) only [k119_52, k119_53, k119_55, k119_57, if_true, if_false, ite_true, ite_false, not_true_eq_false, not_false_eq_true, true_or, or_true, false_or, or_false, and_self, ok_n0, ok_ni, ok_nr, ok_nl, va_rf_some, va_rf_none, true_and, and_true, List.length_nil, List.length_cons, Option.toList_some, Option.toList_none, List.cons_append, List.nil_append, rK_uA, rK_uI, rK_uJ, rK_uP, rP_uA, rP_uI, rP_uJ, rJ_uA, rJ_uI, rJ_uP, rI_uJ, rI_uP, rz_uA, rz_uI, rz_uJ, rz_uP, rs_uA, rs_uI, rs_uJ, rs_uP, Nat.reduceAdd, Nat.reduceMul, Nat.reduceSub, Nat.reduceLeDiff, Nat.reduceLT, Nat.reduceEqDiff, Nat.add_zero, Nat.zero_add, Nat.zero_le, t6.kk, ar_n0, ar_cl, b, hg7]
  have t8 := t7.st (f := 11) (g := 60) (by omega) (by rfl) (by rfl)
  generalize hg8 : uP (aN g7 (2, 60) 60) M 11 (some (rz g7)) = g8 at t8
  have y7 : ∀ st Q, pGo 119 60 [some (.ref M), none] st g7 Q = pGo 119 68 [some (.ref M), none] st g8 Q := fun st Q => by
    simp (disch := omega) only [k119_60, k119_61, k119_63, k119_65, if_true, if_false, ite_true, ite_false, not_true_eq_false, not_false_eq_true, true_or, or_true, false_or, or_false, and_self, ok_n0, ok_ni, ok_nr, ok_nl, va_rf_some, va_rf_none, true_and, and_true, List.length_nil, List.length_cons, Option.toList_some, Option.toList_none, List.cons_append, List.nil_append, rK_uA, rK_uI, rK_uJ, rK_uP, rP_uA, rP_uI, rP_uJ, rJ_uA, rJ_uI, rJ_uP, rI_uJ, rI_uP, rz_uA, rz_uI, rz_uJ, rz_uP, rs_uA, rs_uI, rs_uJ, rs_uP, Nat.reduceAdd, Nat.reduceMul, Nat.reduceSub, Nat.reduceLeDiff, Nat.reduceLT, Nat.reduceEqDiff, Nat.add_zero, Nat.zero_add, Nat.zero_le, t7.kk, ar_n0, ar_cl, b, hg8]
  have t9 := t8.st (f := 14) (g := 64) (by omega) (by rfl) (by rfl)
  generalize hg9 : uP (aN g8 (2, 64) 64) M 14 (some (rz g8)) = g9 at t9
  have y8 : ∀ st Q, pGo 119 68 [some (.ref M), none] st g8 Q = pGo 119 76 [some (.ref M), none] st g9 Q := fun st Q => by
    simp (disch := omega) only [k119_68, k119_69, k119_71, k119_73, if_true, if_false, ite_true, ite_false, not_true_eq_false, not_false_eq_true, true_or, or_true, false_or, or_false, and_self, ok_n0, ok_ni, ok_nr, ok_nl, va_rf_some, va_rf_none, true_and, and_true, List.length_nil, List.length_cons, Option.toList_some, Option.toList_none, List.cons_append, List.nil_append, rK_uA, rK_uI, rK_uJ, rK_uP, rP_uA, rP_uI, rP_uJ, rJ_uA, rJ_uI, rJ_uP, rI_uJ, rI_uP, rz_uA, rz_uI, rz_uJ, rz_uP, rs_uA, rs_uI, rs_uJ, rs_uP, Nat.reduceAdd, Nat.reduceMul, Nat.reduceSub, Nat.reduceLeDiff, Nat.reduceLT, Nat.reduceEqDiff, Nat.add_zero, Nat.zero_add, Nat.zero_le, t8.kk, ar_n0, ar_cl, b, hg9]
  have t10 := t9.st (f := 15) (g := 64) (by omega) (by rfl) (by rfl)
  generalize hg10 : uP (aN g9 (2, 64) 64) M 15 (some (rz g9)) = g10 at t10
  have y9 : ∀ st Q, pGo 119 76 [some (.ref M), none] st g9 Q = pGo 119 84 [some (.ref M), none] st g10 Q := fun st Q => by
    simp (disch := omega) only [k119_76, k119_77, k119_79, k119_81, if_true, if_false, ite_true, ite_false, not_true_eq_false, not_false_eq_true, true_or, or_true, false_or, or_false, and_self, ok_n0, ok_ni, ok_nr, ok_nl, va_rf_some, va_rf_none, true_and, and_true, List.length_nil, List.length_cons, Option.toList_some, Option.toList_none, List.cons_append, List.nil_append, rK_uA, rK_uI, rK_uJ, rK_uP, rP_uA, rP_uI, rP_uJ, rJ_uA, rJ_uI, rJ_uP, rI_uJ, rI_uP, rz_uA, rz_uI, rz_uJ, rz_uP, rs_uA, rs_uI, rs_uJ, rs_uP, Nat.reduceAdd, Nat.reduceMul, Nat.reduceSub, Nat.reduceLeDiff, Nat.reduceLT, Nat.reduceEqDiff, Nat.add_zero, Nat.zero_add, Nat.zero_le, t9.kk, ar_n0, ar_cl, b, hg10]
  have t11 := t10.st (f := 16) (g := 64) (by omega) (by rfl) (by rfl)
  generalize hg11 : uP (aN g10 (2, 64) 64) M 16 (some (rz g10)) = g11 at t11
  have y10 : ∀ st Q, pGo 119 84 [some (.ref M), none] st g10 Q = pGo 119 92 [some (.ref M), none] st g11 Q := fun st Q => by
    simp (disch := omega) only [k119_84, k119_85, k119_87, k119_89, if_true, if_false, ite_true, ite_false, not_true_eq_false, not_false_eq_true, true_or, or_true, false_or, or_false, and_self, ok_n0, ok_ni, ok_nr, ok_nl, va_rf_some, va_rf_none, true_and, and_true, List.length_nil, List.length_cons, Option.toList_some, Option.toList_none, List.cons_append, List.nil_append, rK_uA, rK_uI, rK_uJ, rK_uP, rP_uA, rP_uI, rP_uJ, rJ_uA, rJ_uI, rJ_uP, rI_uJ, rI_uP, rz_uA, rz_uI, rz_uJ, rz_uP, rs_uA, rs_uI, rs_uJ, rs_uP, Nat.reduceAdd, Nat.reduceMul, Nat.reduceSub, Nat.reduceLeDiff, Nat.reduceLT, Nat.reduceEqDiff, Nat.add_zero, Nat.zero_add, Nat.zero_le, t10.kk, ar_n0, ar_cl, b, hg11]
  have t12 := t11.st (f := 17) (g := 64) (by omega) (by rfl) (by rfl)
  generalize hg12 : uP (aN g11 (2, 64) 64) M 17 (some (rz g11)) = g12 at t12
  have y11 : ∀ st Q, pGo 119 92 [some (.ref M), none] st g11 Q = pGo 119 100 [some (.ref M), none] st g12 Q := fun st Q => by
    simp (disch := omega) only [k119_92, k119_93, k119_95, k119_97, if_true, if_false, ite_true, ite_false, not_true_eq_false, not_false_eq_true, true_or, or_true, false_or, or_false, and_self, ok_n0, ok_ni, ok_nr, ok_nl, va_rf_some, va_rf_none, true_and, and_true, List.length_nil, List.length_cons, Option.toList_some, Option.toList_none, List.cons_append, List.nil_append, rK_uA, rK_uI, rK_uJ, rK_uP, rP_uA, rP_uI, rP_uJ, rJ_uA, rJ_uI, rJ_uP, rI_uJ, rI_uP, rz_uA, rz_uI, rz_uJ, rz_uP, rs_uA, rs_uI, rs_uJ, rs_uP, Nat.reduceAdd, Nat.reduceMul, Nat.reduceSub, Nat.reduceLeDiff, Nat.reduceLT, Nat.reduceEqDiff, Nat.add_zero, Nat.zero_add, Nat.zero_le, t11.kk, ar_n0, ar_cl, b, hg12]
  have t13 := t12.st (f := 18) (g := 64) (by omega) (by rfl) (by rfl)
  generalize hg13 : uP (aN g12 (2, 64) 64) M 18 (some (rz g12)) = g13 at t13
  have y12 : ∀ st Q, pGo 119 100 [some (.ref M), none] st g12 Q = pGo 119 108 [some (.ref M), none] st g13 Q := fun st Q => by
    simp (disch := omega) only [k119_100, k119_101, k119_103, k119_105, if_true, if_false, ite_true, ite_false, not_true_eq_false, not_false_eq_true, true_or, or_true, false_or, or_false, and_self, ok_n0, ok_ni, ok_nr, ok_nl, va_rf_some, va_rf_none, true_and, and_true, List.length_nil, List.length_cons, Option.toList_some, Option.toList_none, List.cons_append, List.nil_append, rK_uA, rK_uI, rK_uJ, rK_uP, rP_uA, rP_uI, rP_uJ, rJ_uA, rJ_uI, rJ_uP, rI_uJ, rI_uP, rz_uA, rz_uI, rz_uJ, rz_uP, rs_uA, rs_uI, rs_uJ, rs_uP, Nat.reduceAdd, Nat.reduceMul, Nat.reduceSub, Nat.reduceLeDiff, Nat.reduceLT, Nat.reduceEqDiff, Nat.add_zero, Nat.zero_add, Nat.zero_le, t12.kk, ar_n0, ar_cl, b, hg13]
  have t14 := t13.st (f := 19) (g := 64) (by omega) (by rfl) (by rfl)
  generalize hg14 : uP (aN g13 (2, 64) 64) M 19 (some (rz g13)) = g14 at t14
  have y13 : ∀ st Q, pGo 119 108 [some (.ref M), none] st g13 Q = pGo 119 116 [some (.ref M), none] st g14 Q := fun st Q => by
    simp (disch := omega) only [k119_108, k119_109, k119_111, k119_113, if_true, if_false, ite_true, ite_false, not_true_eq_false, not_false_eq_true, true_or, or_true, false_or, or_false, and_self, ok_n0, ok_ni, ok_nr, ok_nl, va_rf_some, va_rf_none, true_and, and_true, List.length_nil, List.length_cons, Option.toList_some, Option.toList_none, List.cons_append, List.nil_append, rK_uA, rK_uI, rK_uJ, rK_uP, rP_uA, rP_uI, rP_uJ, rJ_uA, rJ_uI, rJ_uP, rI_uJ, rI_uP, rz_uA, rz_uI, rz_uJ, rz_uP, rs_uA, rs_uI, rs_uJ, rs_uP, Nat.reduceAdd, Nat.reduceMul, Nat.reduceSub, Nat.reduceLeDiff, Nat.reduceLT, Nat.reduceEqDiff, Nat.add_zero, Nat.zero_add, Nat.zero_le, t13.kk, ar_n0, ar_cl, b, hg14]
  have t15 := t14.st (f := 21) (g := 4) (by omega) (by rfl) (by rfl)
  generalize hg15 : uP (aN g14 (2, 4) 4) M 21 (some (rz g14)) = g15 at t15
  have y14 : ∀ st Q, pGo 119 116 [some (.ref M), none] st g14 Q = pGo 119 123 [some (.ref M), none] st g15 Q := fun st Q => by
    simp (disch := omega) only [k119_116, k119_117, k119_118, k119_120, if_true, if_false, ite_true, ite_false, not_true_eq_false, not_false_eq_true, true_or, or_true, false_or, or_false, and_self, ok_n0, ok_ni, ok_nr, ok_nl, va_rf_some, va_rf_none, true_and, and_true, List.length_nil, List.length_cons, Option.toList_some, Option.toList_none, List.cons_append, List.nil_append, rK_uA, rK_uI, rK_uJ, rK_uP, rP_uA, rP_uI, rP_uJ, rJ_uA, rJ_uI, rJ_uP, rI_uJ, rI_uP, rz_uA, rz_uI, rz_uJ, rz_uP, rs_uA, rs_uI, rs_uJ, rs_uP, Nat.reduceAdd, Nat.reduceMul, Nat.reduceSub, Nat.reduceLeDiff, Nat.reduceLT, Nat.reduceEqDiff, Nat.add_zero, Nat.zero_add, Nat.zero_le, t14.kk, ar_n0, ar_cl, b, hg15]
  refine ⟨g15, _, ?_, fun st Q => ?_, t15⟩
  · omega
  · rw [y0, y1, y2, y3, y4, y5, y6, y7, y8, y9, y10, y11, y12, y13, y14]
theorem m_wr (h : pm_H) {g15 : pm_H} {M S : Nat} (t15 : AR h g15 M 15 S) : MK g15 M ∧ MK2 g15 M ∧ ∀ Q, pGo 119 123 [some (.ref M), none] [] g15 Q = Q (none, uA g15 (M + 1) iniV) := by
  have mk : MK g15 M := ⟨t15.k, (t15.a 0 (by omega)).1, (t15.a 0 (by omega)).2.1, (t15.a 1 (by omega)).1, (t15.a 1 (by omega)).2.1, (t15.a 2 (by omega)).1, (t15.a 2 (by omega)).2.1, (t15.a 3 (by omega)).1, (t15.a 3 (by omega)).2.1, (t15.a 4 (by omega)).1, (t15.a 4 (by omega)).2.1, (t15.a 5 (by omega)).1, (t15.a 5 (by omega)).2.1, (t15.a 6 (by omega)).1, (t15.a 6 (by omega)).2.1, (t15.a 7 (by omega)).1, (t15.a 7 (by omega)).2.1⟩
  have mk2 : MK2 g15 M := ⟨(t15.a 8 (by omega)).1, (t15.a 8 (by omega)).2.1, (t15.a 9 (by omega)).1, (t15.a 9 (by omega)).2.1, (t15.a 10 (by omega)).1, (t15.a 10 (by omega)).2.1, (t15.a 11 (by omega)).1, (t15.a 11 (by omega)).2.1, (t15.a 12 (by omega)).1, (t15.a 12 (by omega)).2.1, (t15.a 13 (by omega)).1, (t15.a 13 (by omega)).2.1, (t15.a 14 (by omega)).1, (t15.a 14 (by omega)).2.1⟩
  have z1 : rI g15 (M + 1) = fun _ => 0 := funext (t15.a 0 (by omega)).2.2
  have d1 : ¬ M = M + 1 := by omega
  have lh := fun Q => i_mh (h := g15) (M := M) (u := upd (upd (upd (upd (fun _ => 0) 0 (nI 1)) 7 (nI 800)) 8 (nI 600)) 25 (nI 8)) mk.1 mk.2.1 mk.2.2.1 Q 8 0 (by omega)
  have lr : ∀ Q, pGo 119 187 [some (.ref M), some (.int (nI 0))] [] (uA g15 (M + 1) iniB) Q = Q (none, uA g15 (M + 1) iniV) := fun Q => i_mr (h := g15) (M := M) (u := iniB) mk (t15.n 3) Q 9 0 (by omega)
  simp only [fil_0] at lh
  refine ⟨mk, mk2, fun Q => ?_⟩
  rw [k119_123]
  simp (disch := omega) only [k119_0, k119_1, k119_4, k119_5, k119_7, k119_9, k119_12, k119_13, k119_15, k119_17, k119_20, k119_21, k119_23, k119_25, k119_28, k119_29, k119_31, k119_33, k119_36, k119_37, k119_39, k119_41, k119_44, k119_45, k119_47, k119_49, k119_52, k119_53, k119_55, k119_57, k119_60, k119_61, k119_63, k119_65, k119_68, k119_69, k119_71, k119_73, k119_76, k119_77, k119_79, k119_81, k119_84, k119_85, k119_87, k119_89, k119_92, k119_93, k119_95, k119_97, k119_100, k119_101, k119_103, k119_105, k119_108, k119_109, k119_111, k119_113, k119_116, k119_117, k119_118, k119_120, k119_124, k119_127, k119_128, k119_129, k119_130, k119_131, k119_134, k119_136, k119_139, k119_140, k119_141, k119_144, k119_146, k119_149, k119_150, k119_151, k119_154, k119_156, k119_158, k119_159, k119_160, k119_162, k119_164, k119_167, k119_168, k119_171, k119_173, k119_174, k119_175, k119_176, k119_177, k119_178, k119_179, k119_182, k119_186, k119_188, k119_190, k119_193, k119_194, k119_197, k119_198, k119_199, k119_202, k119_203, k119_204, k119_205, k119_206, k119_207, k119_210, k119_211, k119_212, k119_215, k119_216, k119_217, k119_220, k119_221, k119_222, k119_225, k119_226, k119_227, k119_230, k119_231, k119_232, k119_233, k119_234, k119_237, k119_240, if_true, if_false, ite_true, ite_false, not_true_eq_false, not_false_eq_true, true_or, or_true, false_or, or_false, and_self, ok_n0, ok_ni, ok_nr, ok_nl, va_rf_some, va_rf_none, true_and, and_true, List.length_nil, List.length_cons, Option.toList_some, Option.toList_none, List.cons_append, List.nil_append, rK_uA, rK_uI, rK_uJ, rK_uP, rP_uA, rP_uI, rP_uJ, rJ_uA, rJ_uI, rJ_uP, rI_uJ, rI_uP, rz_uA, rz_uI, rz_uJ, rz_uP, rs_uA, rs_uI, rs_uJ, rs_uP, Nat.reduceAdd, Nat.reduceMul, Nat.reduceSub, Nat.reduceLeDiff, Nat.reduceLT, Nat.reduceEqDiff, Nat.add_zero, Nat.zero_add, Nat.zero_le, mk.1, mk.2.1, mk.2.2.1, ar_okw, ar_cl, uI_eq, rI_uA, uA_uA, z1, lh]
  rw [k119_185]
  simp only [k119_186, if_true, if_false, ite_true, ite_false, not_true_eq_false, not_false_eq_true, true_or, or_true, false_or, or_false, and_self, ok_n0, ok_ni, ok_nr, ok_nl, va_rf_some, va_rf_none, true_and, and_true, List.length_nil, List.length_cons, Option.toList_some, Option.toList_none, List.cons_append, List.nil_append, rK_uA, rK_uI, rK_uJ, rK_uP, rP_uA, rP_uI, rP_uJ, rJ_uA, rJ_uI, rJ_uP, rI_uJ, rI_uP, rz_uA, rz_uI, rz_uJ, rz_uP, rs_uA, rs_uI, rs_uJ, rs_uP, Nat.reduceAdd, Nat.reduceMul, Nat.reduceSub, Nat.reduceLeDiff, Nat.reduceLT, Nat.reduceEqDiff, Nat.add_zero, Nat.zero_add, Nat.zero_le]
  exact lr Q
theorem n_Model (h : pm_H) : ∃ h', (∀ Q, pGo 119 0 [some (.ref (rz h)), none] [] (aN h (1, 9) 23) Q = Q (none, h')) ∧ (rz h' = rz h + 16 ∧ rs h' ≤ rs h + 50000 ∧ ∀ q, q < rz h → SQ h h' q) ∧ MK h' (rz h) ∧ MK2 h' (rz h) ∧ (∀ k, rI h' (rz h) k = nI 0) ∧ ∀ e, rI h' (rz h + 1) e = iniV e := by
  generalize hz : rz h = M
  have t0 : AR h (aN h (1, 9) 23) M 0 0 := by
    refine ⟨by rw [rz_aN, hz], by rw [rs_aN], fun q hq => SQ.aN h _ _ (by omega), by rw [rK_aN, if_pos hz.symm], fun j hj => absurd hj (by omega), fun k => by rw [rI_aN, if_pos hz.symm]⟩
  obtain ⟨g, S, hS, y, t⟩ := m_al h t0
  obtain ⟨mk, mk2, e⟩ := m_wr h t
  have d1 : ¬ M = M + 1 := by omega
  refine ⟨uA g (M + 1) iniV, fun Q => ?_, ⟨?_, ?_, fun q hq => ?_⟩, mk, mk2, fun k => ?_, fun e => ?_⟩
  · rw [k119_0]
    simp only [k119_1, if_true, if_false, ite_true, ite_false, not_true_eq_false, not_false_eq_true, true_or, or_true, false_or, or_false, and_self, ok_n0, ok_ni, ok_nr, ok_nl, va_rf_some, va_rf_none, true_and, and_true, List.length_nil, List.length_cons, Option.toList_some, Option.toList_none, List.cons_append, List.nil_append, rK_uA, rK_uI, rK_uJ, rK_uP, rP_uA, rP_uI, rP_uJ, rJ_uA, rJ_uI, rJ_uP, rI_uJ, rI_uP, rz_uA, rz_uI, rz_uJ, rz_uP, rs_uA, rs_uI, rs_uJ, rs_uP, Nat.reduceAdd, Nat.reduceMul, Nat.reduceSub, Nat.reduceLeDiff, Nat.reduceLT, Nat.reduceEqDiff, Nat.add_zero, Nat.zero_add, Nat.zero_le]
    rw [y, e]
  · rw [rz_uA, t.z]
  · have := t.s
    rw [rs_uA]; omega
  · exact (t.o q (by omega)).tr (SQ.uA _ _ (by omega))
  · rw [rI_uA, if_neg d1]; exact t.n k
  · rw [rI_uA, if_pos rfl]
