/-! WHERE A WINDOW IS SHOWN -/
def tileV (v : Nat → Int32) (i k : Nat) : Prop := ¬ v (620 + 6 * wV v i k + 1) = nI 1
theorem tz_lt {v : Nat → Int32} {i j k : Nat} (ht : tileV v i j) (h : j < k) : tz v i j < tz v i k := by
  have h1 : tz v i (j + 1) ≤ tz v i k := tz_mono v i (by omega)
  rw [tz, if_neg ht] at h1
  omega
theorem tz_inj {v : Nat → Int32} {i j k : Nat} (hj : tileV v i j) (hk : tileV v i k) (h : tz v i j = tz v i k) : j = k := by
  rcases Nat.lt_trichotomy j k with q | q | q
  · have := tz_lt hj q; omega
  · exact q
  · have := tz_lt hk q; omega
theorem tz_sur {v : Nat → Int32} {i : Nat} : ∀ c t, t < tz v i c → ∃ j, j < c ∧ tileV v i j ∧ tz v i j = t := by
  intro c
  induction c with
  | zero => intro t h; rw [tz] at h; omega
  | succ c ih =>
    intro t h
    rw [tz] at h
    by_cases hc : v (620 + 6 * wV v i c + 1) = nI 1
    · rw [if_pos hc] at h
      obtain ⟨j, h1, h2⟩ := ih t h
      exact ⟨j, by omega, h2⟩
    · rw [if_neg hc] at h
      by_cases ht : t < tz v i c
      · obtain ⟨j, h1, h2⟩ := ih t ht
        exact ⟨j, by omega, h2⟩
      · exact ⟨c, by omega, hc, by omega⟩
/-- the first tile from k on -/
def fstV (v : Nat → Int32) (i : Nat) : Nat → Nat → Int32
  | 0, _ => -1
  | m + 1, k => if v (620 + 6 * wV v i k + 1) = nI 1 then fstV v i m (k + 1) else v (35 + 65 * i + 5 + k)
theorem fstV_no {v : Nat → Int32} {i : Nat} : ∀ m k, (∀ j, k ≤ j → j < k + m → ¬ tileV v i j) → fstV v i m k = -1 := by
  intro m
  induction m with
  | zero => intro k _; rfl
  | succ m ih =>
    intro k h
    rw [fstV, if_pos (Classical.not_not.mp (h k (by omega) (by omega))), ih (k + 1) (fun j h1 h2 => h j (by omega) (by omega))]
theorem fstV_at {v : Nat → Int32} {i f : Nat} : ∀ m k, k ≤ f → f < k + m → tileV v i f → (∀ j, k ≤ j → j < f → ¬ tileV v i j) → fstV v i m k = v (35 + 65 * i + 5 + f) := by
  intro m
  induction m with
  | zero => intro k h1 h2; omega
  | succ m ih =>
    intro k h1 h2 h3 h4
    rw [fstV]
    by_cases hk : k = f
    · subst hk; rw [if_neg h3]
    · rw [if_pos (Classical.not_not.mp (h4 k (by omega) (by omega)))]
      exact ih (k + 1) (by omega) (by omega) h3 (fun j h5 h6 => h4 j (by omega) h6)
/-- the one tile that FULL shows -/
def fullV (v : Nat → Int32) (i c : Nat) : Int32 := if focV v i = -1 ∨ ¬ v (620 + 6 * (focV v i).toNatClampNeg + 1) = nI 1 then focV v i else fstV v i c 0
/-- where a float is -/
def flV (v : Nat → Int32) (j w : Nat) : Nat → Int32 := bx4 (fun _ => 0) (bxV v j 0 + bxV v j 2 * v (620 + 6 * w + 2) / nI 1000) (bxV v j 1 + bxV v j 3 * v (620 + 6 * w + 3) / nI 1000) (bxV v j 2 * v (620 + 6 * w + 4) / nI 1000) (bxV v j 3 * v (620 + 6 * w + 5) / nI 1000)
def shV (v : Nat → Int32) (n : Nat) (lo C H : Nat → Nat) (w : Nat) : Bool := decide (lo (H w) < n) && (decide (v (620 + 6 * w + 1) = nI 1) || (decide (¬ v (35 + 65 * H w) = nI 2) || decide (fullV v (H w) (C (H w)) = nI w)))
def rcV (v : Nat → Int32) (lo C H P : Nat → Nat) (w : Nat) : Nat → Int32 := if v (620 + 6 * w + 1) = nI 1 then flV v (lo (H w)) w else narB (bxV v (lo (H w))) (v (35 + 65 * H w)) (v (35 + 65 * H w + 1)) (v (35 + 65 * H w + 2)) (tz v (H w) (P w)) (tz v (H w) (C (H w)))
section INV
variable {v : Nat → Int32} {n c : Nat} {p lo r rl C H P : Nat → Nat} {h : pm_H} {d : Nat}
theorem RI.tile (q : RI v C H P) {w : Nat} (hw : w < 60) (ht : v (620 + 6 * w) = nI 1) (hf : ¬ v (620 + 6 * w + 1) = nI 1) : tileV v (H w) (P w) := by
  rw [tileV, (q.hp w hw ht).2.2]; exact hf
/-- the model's 'only' is the tile that FULL shows -/
theorem RI.only (q : RI v C H P) {w : Nat} (hw : w < 60) (ht : v (620 + 6 * w) = nI 1) (hf : ¬ v (620 + 6 * w + 1) = nI 1) {T : Nat → Int32} (hT : ∀ j, j < C (H w) → tileV v (H w) j → T (tz v (H w) j) = v (35 + 65 * H w + 5 + j)) : (llast T (focV v (H w)) (tz v (H w) (C (H w))) 0 (nI 0) = nI (tz v (H w) (P w))) = (fullV v (H w) (C (H w)) = nI w) := by
  obtain ⟨h1, h2, h3⟩ := q.hp w hw ht
  have tw := q.tile hw ht hf
  have hc := q.c60 _ h1
  have bz := fun k => tz_le v (H w) k
  have bP := bz (P w)
  have ow := q.od _ _ h1 h2
  rcases q.foc h1 with ⟨h0, -⟩ | ⟨f, f1, f2, f3⟩
  · omega
  · have of := q.od _ _ h1 f1
    have bf := bz f
    by_cases tf : tileV v (H w) f
    · have e1 : llast T (focV v (H w)) (tz v (H w) (C (H w))) 0 (nI 0) = nI (tz v (H w) f) := by
        refine llast_at _ 0 _ (by omega) (by have := tz_lt tf f1; omega) ?_ (fun j j1 j2 => ?_)
        · rw [hT f f1 tf, f3, of.2.1]
        · obtain ⟨k, k1, k2, k3⟩ := tz_sur (v := v) (i := H w) (C (H w)) j (by omega)
          rw [← k3, hT k k1 k2, f3, (q.od _ _ h1 k1).2.1]
          intro e
          have e := nI_inj (by have := (q.od _ _ h1 k1).1; omega) (by omega) e
          have z1 := (q.od _ _ h1 k1).2.2.2.2
          rw [e, of.2.2.2.2] at z1
          rw [z1] at j1
          omega
      have e2 : fullV v (H w) (C (H w)) = nI (wV v (H w) f) := by
        rw [fullV, f3, ar_cl (by omega)]
        exact if_pos (Or.inr tf)
      rw [e1, e2, ar_eq (by omega) (by omega), ar_eq (by omega) (by omega)]
      refine propext ⟨fun e => ?_, fun e => ?_⟩
      · rw [tz_inj tf tw e, h3]
      · rw [← e, of.2.2.2.2, of.2.2.2.1]
    · have tf' := Classical.not_not.mp tf
      have e1 : llast T (focV v (H w)) (tz v (H w) (C (H w))) 0 (nI 0) = nI 0 := by
        refine llast_no _ 0 _ (fun j j1 j2 => ?_)
        obtain ⟨k, k1, k2, k3⟩ := tz_sur (v := v) (i := H w) (C (H w)) j (by omega)
        rw [← k3, hT k k1 k2, f3, (q.od _ _ h1 k1).2.1]
        intro e
        have e := nI_inj (by have := (q.od _ _ h1 k1).1; omega) (by omega) e
        rw [tileV, e] at k2
        exact k2 tf'
      have hx : 0 < tz v (H w) (C (H w)) := by have := tz_lt tw h2; omega
      obtain ⟨k, k1, k2, k3⟩ := tz_sur (C (H w)) 0 hx
      have ok := q.od _ _ h1 k1
      have e2 : fullV v (H w) (C (H w)) = nI (wV v (H w) k) := by
        rw [fullV, f3, ar_cl (by omega), if_neg (by
          rintro (e | e)
          · rw [ar_nm (by omega)] at e; exact e
          · exact e tf'), ← ok.2.1]
        refine fstV_at _ 0 (by omega) (by omega) k2 (fun j j1 j2 j3 => ?_)
        have := tz_lt j3 j2
        omega
      rw [e1, e2, ar_eq (by omega) (by omega), ar_eq (by omega) (by omega)]
      refine propext ⟨fun e => ?_, fun e => ?_⟩
      · rw [tz_inj k2 tw (by omega), h3]
      · rw [← e, ok.2.2.2.2, ok.2.2.2.1, k3]
theorem s_isShown_w {M s : Nat} (t : MK h M) {w k : Nat} (hk : k < 60) (hT : rI h (M + 4) k = nI w) (hn : ∀ j, j < k → ¬ rI h (M + 4) j = nI w) {a2 a3 a4 a5 : Option Value} (o : ok_n a5 = True) (Q : Option Value × pm_H → Prop) : ∀ (m j : Nat), j + m = k → pGo 168 175 [some (.ref M), some (.int (nI w)), a2, a3, a4, a5, some (.int (nI j))] [] h Q = pGo 168 192 [some (.ref M), some (.int (nI w)), a2, a3, a4, a5, some (.int (nI k))] [] h Q := by
  obtain ⟨k0, k1, k2, k3, k4, k5, k6, k7, k8, -⟩ := id t
  intro m
  induction m with
  | zero =>
    intro j hj
    have : j = k := by omega
    subst this
    rw [k168_175]
    simp (disch := omega) only [k168_176, k168_179, k168_181, k168_182, k168_183, k168_186, k168_189, if_true, if_false, ite_true, ite_false, not_true_eq_false, not_false_eq_true, true_or, or_true, false_or, or_false, and_self, ok_n0, ok_ni, ok_nr, ok_nl, va_rf_some, va_rf_none, true_and, and_true, List.length_nil, List.length_cons, Option.toList_some, Option.toList_none, List.cons_append, List.nil_append, rK_uA, rK_uI, rK_uJ, rK_uP, rP_uA, rP_uI, rP_uJ, rJ_uA, rJ_uI, rJ_uP, rI_uJ, rI_uP, rz_uA, rz_uI, rz_uJ, rz_uP, rs_uA, rs_uI, rs_uJ, rs_uP, Nat.reduceAdd, Nat.reduceMul, Nat.reduceSub, Nat.reduceLeDiff, Nat.reduceLT, Nat.reduceEqDiff, Nat.add_zero, Nat.zero_add, Nat.zero_le, k0, k7, k8, ar_oki, ar_cl, hT, hk]
  | succ m ih =>
    intro j hj
    have c1 := hn j (by omega)
    have c2 : j < 60 := by omega
    rw [k168_175]
    simp (disch := omega) only [k168_176, k168_179, k168_181, k168_182, k168_183, k168_186, k168_189, if_true, if_false, ite_true, ite_false, not_true_eq_false, not_false_eq_true, true_or, or_true, false_or, or_false, and_self, ok_n0, ok_ni, ok_nr, ok_nl, va_rf_some, va_rf_none, true_and, and_true, List.length_nil, List.length_cons, Option.toList_some, Option.toList_none, List.cons_append, List.nil_append, rK_uA, rK_uI, rK_uJ, rK_uP, rP_uA, rP_uI, rP_uJ, rJ_uA, rJ_uI, rJ_uP, rI_uJ, rI_uP, rz_uA, rz_uI, rz_uJ, rz_uP, rs_uA, rs_uI, rs_uJ, rs_uP, Nat.reduceAdd, Nat.reduceMul, Nat.reduceSub, Nat.reduceLeDiff, Nat.reduceLT, Nat.reduceEqDiff, Nat.add_zero, Nat.zero_add, Nat.zero_le, k0, k7, k8, ar_oki, ar_cl, ar_add, c1, c2, o]
    exact ih (j + 1) (by omega)
theorem s_isShown {M s : Nat} (t : MV h M s v) (t2 : MK2 h M) (si : SI v n c p lo r rl) (q : RI v C H P) {w : Nat} (hw : w < 60) (ht : v (620 + 6 * w) = nI 1) (Q : Option Value × pm_H → Prop) (hQ : ∀ h', SCR M h h' → (shV v n lo C H w = true → eq4 (rI h' (M + 15)) (rcV v lo C H P w)) → Q (some (.int (nb (shV v n lo C H w))), h')) : pGo 168 0 [some (.ref M), some (.int (nI w)), none, none, none, none, none] [] h Q := by
  obtain ⟨t1, u2, u3, u4⟩ := id t
  obtain ⟨h1, h2, h3⟩ := q.hp w hw ht
  have n4 := si.n4
  have ho := q.hom_y hw ht
  have cs := s_homeOf t q.ct q.c60 (nI w)
  rw [ho] at cs
  have ss := s_screenOf t si.v0 si.n4 (nI (H w))
  rw [k168_0]
  by_cases hl : lo (H w) < n
  · rw [si.scr_y h1 hl] at ss
    have a0 : s + (620 + 6 * w + 1) < 41160 := by omega
    have b0 : s + (5 + 4 * lo (H w)) < 41160 := by omega
    have b1 : s + (5 + 4 * lo (H w) + 1) < 41160 := by omega
    have b2 : s + (5 + 4 * lo (H w) + 2) < 41160 := by omega
    have b3 : s + (5 + 4 * lo (H w) + 3) < 41160 := by omega
    have d2 : s + (620 + 6 * w + 2) < 41160 := by omega
    have d3 : s + (620 + 6 * w + 3) < 41160 := by omega
    have d4 : s + (620 + 6 * w + 4) < 41160 := by omega
    have d5 : s + (620 + 6 * w + 5) < 41160 := by omega
    have o6 : ∀ x : Int32, ok_n (some (Value.int x)) = True := fun x => ok_ni x
    simp (disch := omega) only [k168_1, k168_2, k168_5, k168_6, k168_7, k168_8, k168_11, k168_12, k168_13, k168_16, k168_17, k168_18, k168_19, k168_20, k168_23, k168_25, k168_26, k168_29, k168_30, k168_31, k168_32, k168_33, k168_34, k168_35, k168_37, k168_38, k168_41, k168_43, k168_44, k168_45, k168_46, k168_47, k168_50, k168_51, k168_52, k168_55, k168_57, k168_58, k168_59, k168_62, k168_64, k168_65, k168_66, k168_67, k168_68, k168_71, k168_73, k168_74, k168_75, k168_76, k168_77, k168_80, k168_81, k168_82, k168_83, k168_86, k168_88, k168_89, k168_90, k168_91, k168_92, k168_95, k168_97, k168_98, k168_99, k168_100, k168_101, k168_104, k168_106, k168_107, k168_108, k168_109, k168_110, k168_113, k168_114, k168_115, k168_116, k168_119, k168_121, k168_122, k168_123, k168_124, k168_125, k168_128, k168_130, k168_131, k168_132, k168_133, k168_134, k168_137, k168_138, k168_139, k168_142, k168_144, k168_145, k168_146, k168_147, k168_148, k168_151, k168_153, k168_154, k168_155, k168_156, k168_157, k168_160, k168_161, k168_164, k168_165, k168_166, k168_167, k168_168, k168_169, k168_172, k168_173, k168_176, k168_179, k168_181, k168_182, k168_183, k168_186, k168_189, k168_193, k168_196, k168_199, k168_200, k168_203, k168_205, k168_208, k168_209, k168_210, k168_211, k168_212, k168_215, k168_217, k168_218, k168_219, k168_222, k168_224, k168_225, k168_226, k168_229, k168_231, k168_232, k168_233, k168_236, k168_238, k168_239, k168_242, k168_243, cs, ss, s_seat t, s_finds t1 t2, if_true, if_false, ite_true, ite_false, not_true_eq_false, not_false_eq_true, true_or, or_true, false_or, or_false, and_self, ok_n0, ok_ni, ok_nr, ok_nl, va_rf_some, va_rf_none, true_and, and_true, List.length_nil, List.length_cons, Option.toList_some, Option.toList_none, List.cons_append, List.nil_append, rK_uA, rK_uI, rK_uJ, rK_uP, rP_uA, rP_uI, rP_uJ, rJ_uA, rJ_uI, rJ_uP, rI_uJ, rI_uP, rz_uA, rz_uI, rz_uJ, rz_uP, rs_uA, rs_uI, rs_uJ, rs_uP, Nat.reduceAdd, Nat.reduceMul, Nat.reduceSub, Nat.reduceLeDiff, Nat.reduceLT, Nat.reduceEqDiff, Nat.add_zero, Nat.zero_add, Nat.zero_le, t1.1, t1.2.1, t1.2.2.1, u2, ar_add, ar_mul, ar_oki, ar_cl, ar_le, Nat.add_assoc s, u4, a0, b0, b1, b2, b3, d2, d3, d4, d5, e1000]
    by_cases hf : v (620 + 6 * w + 1) = nI 1
    · have e : shV v n lo C H w = true := by simp [shV, hl, hf]
      simp only [hf, if_true, if_false, ite_true, ite_false, not_true_eq_false, not_false_eq_true, true_or, or_true, false_or, or_false, and_self, ok_n0, ok_ni, ok_nr, ok_nl, va_rf_some, va_rf_none, true_and, and_true, List.length_nil, List.length_cons, Option.toList_some, Option.toList_none, List.cons_append, List.nil_append, rK_uA, rK_uI, rK_uJ, rK_uP, rP_uA, rP_uI, rP_uJ, rJ_uA, rJ_uI, rJ_uP, rI_uJ, rI_uP, rz_uA, rz_uI, rz_uJ, rz_uP, rs_uA, rs_uI, rs_uJ, rs_uP, Nat.reduceAdd, Nat.reduceMul, Nat.reduceSub, Nat.reduceLeDiff, Nat.reduceLT, Nat.reduceEqDiff, Nat.add_zero, Nat.zero_add, Nat.zero_le]
      have := hQ _ (SCR_fnd h M (bx4 (rI h (M + 15)) (v (5 + 4 * lo (H w)) + v (5 + 4 * lo (H w) + 2) * v (620 + 6 * w + 2) / nI 1000) (v (5 + 4 * lo (H w) + 1) + v (5 + 4 * lo (H w) + 3) * v (620 + 6 * w + 3) / nI 1000) (v (5 + 4 * lo (H w) + 2) * v (620 + 6 * w + 4) / nI 1000) (v (5 + 4 * lo (H w) + 3) * v (620 + 6 * w + 5) / nI 1000))) (fun _ => by
        rw [rI_uA, if_pos rfl, rcV, if_pos hf]
        exact eq4_bx _ _ _ _ _ _)
      rw [e] at this
      exact this
    · simp only [hf, if_true, if_false, ite_true, ite_false, not_true_eq_false, not_false_eq_true, true_or, or_true, false_or, or_false, and_self, ok_n0, ok_ni, ok_nr, ok_nl, va_rf_some, va_rf_none, true_and, and_true, List.length_nil, List.length_cons, Option.toList_some, Option.toList_none, List.cons_append, List.nil_append, rK_uA, rK_uI, rK_uJ, rK_uP, rP_uA, rP_uI, rP_uJ, rJ_uA, rJ_uI, rJ_uP, rI_uJ, rI_uP, rz_uA, rz_uI, rz_uJ, rz_uP, rs_uA, rs_uI, rs_uJ, rs_uP, Nat.reduceAdd, Nat.reduceMul, Nat.reduceSub, Nat.reduceLeDiff, Nat.reduceLT, Nat.reduceEqDiff, Nat.add_zero, Nat.zero_add, Nat.zero_le]
      obtain ⟨κ, hκ1, hκ2⟩ := q.kd _ h1
      obtain ⟨mm, hm1, hm2⟩ := q.ms _ h1
      have gb := si.gb hl
      obtain ⟨W, W1, W2⟩ := gb.nw
      obtain ⟨H0, H1, H2⟩ := gb.nh
      have hc := q.c60 _ h1
      have tw := q.tile hw ht hf
      have zl := tz_lt tw h2
      have zc := tz_le v (H w) (C (H w))
      refine s_lays t t2 h1 (show lo (H w) < 4 by omega) (q.ct _ h1) hc (fun k hk => ⟨(q.od _ k h1 hk).1, (q.od _ k h1 hk).2.1⟩) hκ2 hκ1 hm2 hm1 (q.foh h1) W2 W1 H2 H1 _ (fun G hS hz hT hA ho => ?_)
      obtain ⟨g1, g2, g3, g4⟩ := t.scr hS
      have gM2 := t2.scr hS.1 hS.2.1
      have ow := q.od _ _ h1 h2
      have lw := fun a2 a3 a4 a5 o Q => s_isShown_w (s := s) g1 (w := w) (k := tz v (H w) (P w)) (by omega) (by rw [hT _ h2 tw, ow.2.1, h3]) (fun j hj => by
        obtain ⟨k, k1, k2, k3⟩ := tz_sur (P w) j hj
        have ok := q.od _ k h1 (by omega)
        rw [← k3, hT k (by omega) k2, ok.2.1]
        intro e
        have e := nI_inj (by omega) (by omega) e
        rw [e] at ok
        omega) (a2 := a2) (a3 := a3) (a4 := a4) (a5 := a5) o Q (tz v (H w) (P w)) 0 (by omega)
      simp (disch := omega) only [k168_172, k168_173, if_true, if_false, ite_true, ite_false, not_true_eq_false, not_false_eq_true, true_or, or_true, false_or, or_false, and_self, ok_n0, ok_ni, ok_nr, ok_nl, va_rf_some, va_rf_none, true_and, and_true, List.length_nil, List.length_cons, Option.toList_some, Option.toList_none, List.cons_append, List.nil_append, rK_uA, rK_uI, rK_uJ, rK_uP, rP_uA, rP_uI, rP_uJ, rJ_uA, rJ_uI, rJ_uP, rI_uJ, rI_uP, rz_uA, rz_uI, rz_uJ, rz_uP, rs_uA, rs_uI, rs_uJ, rs_uP, Nat.reduceAdd, Nat.reduceMul, Nat.reduceSub, Nat.reduceLeDiff, Nat.reduceLT, Nat.reduceEqDiff, Nat.add_zero, Nat.zero_add, Nat.zero_le]
      rw [lw _ _ _ _ (o6 _), k168_192]
      obtain ⟨k0, k1, k2, k3, k4, k5, k6, k7, k8, k9, k10, k11, k12, k13, k14, k15, k16⟩ := id g1
      have c5 : tz v (H w) (P w) < 60 := by omega
      obtain ⟨i0, i1, i2, i3⟩ := hA _ zl
      have fin : ∀ b, shV v n lo C H w = b → (b = true → Q (some (.int (nI 1)), uA G (M + 15) (bx4 (rI G (M + 15)) (rI G (M + 5) (tz v (H w) (P w))) (rI G (M + 6) (tz v (H w) (P w))) (rI G (M + 7) (tz v (H w) (P w))) (rI G (M + 8) (tz v (H w) (P w)))))) ∧ (b = false → Q (some (.int (nI 0)), G)) := by
        intro b hb
        constructor
        · intro hb2
          subst hb2
          have := hQ _ (hS.tr (SCR_fnd G M (bx4 (rI G (M + 15)) (rI G (M + 5) (tz v (H w) (P w))) (rI G (M + 6) (tz v (H w) (P w))) (rI G (M + 7) (tz v (H w) (P w))) (rI G (M + 8) (tz v (H w) (P w)))))) (fun _ => by
            rw [rI_uA, if_pos rfl, rcV, if_neg hf, hκ2, hm2]
            exact ⟨(bx4_0 _ _ _ _ _).trans i0, (bx4_1 _ _ _ _ _).trans i1, (bx4_2 _ _ _ _ _).trans i2, (bx4_3 _ _ _ _ _).trans i3⟩)
          rw [hb] at this
          exact this
        · intro hb2
          subst hb2
          have := hQ _ hS (fun z => by rw [hb] at z; cases z)
          rw [hb] at this
          exact this
      by_cases h2κ : κ = 2
      · subst h2κ
        rw [if_pos rfl] at ho
        have on := q.only hw ht hf (T := rI G (M + 4)) hT
        rw [← ho] at on
        have h0 : ¬ rI G M 13 < nI 0 := by
          rw [ho]
          have : ∀ (f : Nat → Int32) (x : Int32) m k (r : Nat), r < 100 → k + m < 100 → ¬ llast f x m k (nI r) < nI 0 := by
            intro f x m
            induction m with
            | zero => intro k r hr _; rw [llast, ar_lt (by omega) (by omega)]; omega
            | succ m ih =>
              intro k r hr hk
              rw [llast]
              split
              · exact ih _ _ (by omega) (by omega)
              · exact ih _ _ hr (by omega)
          exact this _ _ _ _ 0 (by omega) (by omega)
        by_cases hx : rI G M 13 = nI (tz v (H w) (P w))
        · have e : shV v n lo C H w = true := by
            rw [on] at hx
            simp [shV, hl, hx]
          simp (disch := omega) only [k168_1, k168_2, k168_5, k168_6, k168_7, k168_8, k168_11, k168_12, k168_13, k168_16, k168_17, k168_18, k168_19, k168_20, k168_23, k168_25, k168_26, k168_29, k168_30, k168_31, k168_32, k168_33, k168_34, k168_35, k168_37, k168_38, k168_41, k168_43, k168_44, k168_45, k168_46, k168_47, k168_50, k168_51, k168_52, k168_55, k168_57, k168_58, k168_59, k168_62, k168_64, k168_65, k168_66, k168_67, k168_68, k168_71, k168_73, k168_74, k168_75, k168_76, k168_77, k168_80, k168_81, k168_82, k168_83, k168_86, k168_88, k168_89, k168_90, k168_91, k168_92, k168_95, k168_97, k168_98, k168_99, k168_100, k168_101, k168_104, k168_106, k168_107, k168_108, k168_109, k168_110, k168_113, k168_114, k168_115, k168_116, k168_119, k168_121, k168_122, k168_123, k168_124, k168_125, k168_128, k168_130, k168_131, k168_132, k168_133, k168_134, k168_137, k168_138, k168_139, k168_142, k168_144, k168_145, k168_146, k168_147, k168_148, k168_151, k168_153, k168_154, k168_155, k168_156, k168_157, k168_160, k168_161, k168_164, k168_165, k168_166, k168_167, k168_168, k168_169, k168_172, k168_173, k168_176, k168_179, k168_181, k168_182, k168_183, k168_186, k168_189, k168_193, k168_196, k168_199, k168_200, k168_203, k168_205, k168_208, k168_209, k168_210, k168_211, k168_212, k168_215, k168_217, k168_218, k168_219, k168_222, k168_224, k168_225, k168_226, k168_229, k168_231, k168_232, k168_233, k168_236, k168_238, k168_239, k168_242, k168_243, s_finds g1 gM2, if_true, if_false, ite_true, ite_false, not_true_eq_false, not_false_eq_true, true_or, or_true, false_or, or_false, and_self, ok_n0, ok_ni, ok_nr, ok_nl, va_rf_some, va_rf_none, true_and, and_true, List.length_nil, List.length_cons, Option.toList_some, Option.toList_none, List.cons_append, List.nil_append, rK_uA, rK_uI, rK_uJ, rK_uP, rP_uA, rP_uI, rP_uJ, rJ_uA, rJ_uI, rJ_uP, rI_uJ, rI_uP, rz_uA, rz_uI, rz_uJ, rz_uP, rs_uA, rs_uI, rs_uJ, rs_uP, Nat.reduceAdd, Nat.reduceMul, Nat.reduceSub, Nat.reduceLeDiff, Nat.reduceLT, Nat.reduceEqDiff, Nat.add_zero, Nat.zero_add, Nat.zero_le, k0, k9, k10, k11, k12, k13, k14, k15, k16, ar_oki, ar_cl, c5, h0, hx]
          have h9 : ¬ nI (tz v (H w) (P w)) < nI 0 := by rw [ar_lt (by omega) (by omega)]; omega
          simp only [h9, if_true, if_false, ite_true, ite_false, not_true_eq_false, not_false_eq_true, true_or, or_true, false_or, or_false, and_self, ok_n0, ok_ni, ok_nr, ok_nl, va_rf_some, va_rf_none, true_and, and_true, List.length_nil, List.length_cons, Option.toList_some, Option.toList_none, List.cons_append, List.nil_append, rK_uA, rK_uI, rK_uJ, rK_uP, rP_uA, rP_uI, rP_uJ, rJ_uA, rJ_uI, rJ_uP, rI_uJ, rI_uP, rz_uA, rz_uI, rz_uJ, rz_uP, rs_uA, rs_uI, rs_uJ, rs_uP, Nat.reduceAdd, Nat.reduceMul, Nat.reduceSub, Nat.reduceLeDiff, Nat.reduceLT, Nat.reduceEqDiff, Nat.add_zero, Nat.zero_add, Nat.zero_le]
          exact (fin _ e).1 rfl
        · have e : shV v n lo C H w = false := by
            rw [on] at hx
            simp [shV, hl, hx, hf, hκ2]
          simp (disch := omega) only [k168_1, k168_2, k168_5, k168_6, k168_7, k168_8, k168_11, k168_12, k168_13, k168_16, k168_17, k168_18, k168_19, k168_20, k168_23, k168_25, k168_26, k168_29, k168_30, k168_31, k168_32, k168_33, k168_34, k168_35, k168_37, k168_38, k168_41, k168_43, k168_44, k168_45, k168_46, k168_47, k168_50, k168_51, k168_52, k168_55, k168_57, k168_58, k168_59, k168_62, k168_64, k168_65, k168_66, k168_67, k168_68, k168_71, k168_73, k168_74, k168_75, k168_76, k168_77, k168_80, k168_81, k168_82, k168_83, k168_86, k168_88, k168_89, k168_90, k168_91, k168_92, k168_95, k168_97, k168_98, k168_99, k168_100, k168_101, k168_104, k168_106, k168_107, k168_108, k168_109, k168_110, k168_113, k168_114, k168_115, k168_116, k168_119, k168_121, k168_122, k168_123, k168_124, k168_125, k168_128, k168_130, k168_131, k168_132, k168_133, k168_134, k168_137, k168_138, k168_139, k168_142, k168_144, k168_145, k168_146, k168_147, k168_148, k168_151, k168_153, k168_154, k168_155, k168_156, k168_157, k168_160, k168_161, k168_164, k168_165, k168_166, k168_167, k168_168, k168_169, k168_172, k168_173, k168_176, k168_179, k168_181, k168_182, k168_183, k168_186, k168_189, k168_193, k168_196, k168_199, k168_200, k168_203, k168_205, k168_208, k168_209, k168_210, k168_211, k168_212, k168_215, k168_217, k168_218, k168_219, k168_222, k168_224, k168_225, k168_226, k168_229, k168_231, k168_232, k168_233, k168_236, k168_238, k168_239, k168_242, k168_243, if_true, if_false, ite_true, ite_false, not_true_eq_false, not_false_eq_true, true_or, or_true, false_or, or_false, and_self, ok_n0, ok_ni, ok_nr, ok_nl, va_rf_some, va_rf_none, true_and, and_true, List.length_nil, List.length_cons, Option.toList_some, Option.toList_none, List.cons_append, List.nil_append, rK_uA, rK_uI, rK_uJ, rK_uP, rP_uA, rP_uI, rP_uJ, rJ_uA, rJ_uI, rJ_uP, rI_uJ, rI_uP, rz_uA, rz_uI, rz_uJ, rz_uP, rs_uA, rs_uI, rs_uJ, rs_uP, Nat.reduceAdd, Nat.reduceMul, Nat.reduceSub, Nat.reduceLeDiff, Nat.reduceLT, Nat.reduceEqDiff, Nat.add_zero, Nat.zero_add, Nat.zero_le, k0, h0, hx]
          exact (fin _ e).2 rfl
      · rw [if_neg h2κ] at ho
        have e : shV v n lo C H w = true := by
          simp [shV, hl, hf, hκ2]
          left
          rw [ar_eq (by omega) (by omega)]; exact h2κ
        simp (disch := omega) only [k168_1, k168_2, k168_5, k168_6, k168_7, k168_8, k168_11, k168_12, k168_13, k168_16, k168_17, k168_18, k168_19, k168_20, k168_23, k168_25, k168_26, k168_29, k168_30, k168_31, k168_32, k168_33, k168_34, k168_35, k168_37, k168_38, k168_41, k168_43, k168_44, k168_45, k168_46, k168_47, k168_50, k168_51, k168_52, k168_55, k168_57, k168_58, k168_59, k168_62, k168_64, k168_65, k168_66, k168_67, k168_68, k168_71, k168_73, k168_74, k168_75, k168_76, k168_77, k168_80, k168_81, k168_82, k168_83, k168_86, k168_88, k168_89, k168_90, k168_91, k168_92, k168_95, k168_97, k168_98, k168_99, k168_100, k168_101, k168_104, k168_106, k168_107, k168_108, k168_109, k168_110, k168_113, k168_114, k168_115, k168_116, k168_119, k168_121, k168_122, k168_123, k168_124, k168_125, k168_128, k168_130, k168_131, k168_132, k168_133, k168_134, k168_137, k168_138, k168_139, k168_142, k168_144, k168_145, k168_146, k168_147, k168_148, k168_151, k168_153, k168_154, k168_155, k168_156, k168_157, k168_160, k168_161, k168_164, k168_165, k168_166, k168_167, k168_168, k168_169, k168_172, k168_173, k168_176, k168_179, k168_181, k168_182, k168_183, k168_186, k168_189, k168_193, k168_196, k168_199, k168_200, k168_203, k168_205, k168_208, k168_209, k168_210, k168_211, k168_212, k168_215, k168_217, k168_218, k168_219, k168_222, k168_224, k168_225, k168_226, k168_229, k168_231, k168_232, k168_233, k168_236, k168_238, k168_239, k168_242, k168_243, s_finds g1 gM2, if_true, if_false, ite_true, ite_false, not_true_eq_false, not_false_eq_true, true_or, or_true, false_or, or_false, and_self, ok_n0, ok_ni, ok_nr, ok_nl, va_rf_some, va_rf_none, true_and, and_true, List.length_nil, List.length_cons, Option.toList_some, Option.toList_none, List.cons_append, List.nil_append, rK_uA, rK_uI, rK_uJ, rK_uP, rP_uA, rP_uI, rP_uJ, rJ_uA, rJ_uI, rJ_uP, rI_uJ, rI_uP, rz_uA, rz_uI, rz_uJ, rz_uP, rs_uA, rs_uI, rs_uJ, rs_uP, Nat.reduceAdd, Nat.reduceMul, Nat.reduceSub, Nat.reduceLeDiff, Nat.reduceLT, Nat.reduceEqDiff, Nat.add_zero, Nat.zero_add, Nat.zero_le, k0, k9, k10, k11, k12, k13, k14, k15, k16, ar_oki, ar_cl, c5, ho, show ((-1 : Int32) < nI 0) = True from eq_true (by decide +kernel)]
        exact (fin _ e).1 rfl
  · rw [si.scr_n h1 hl] at ss
    have e : shV v n lo C H w = false := by simp [shV, hl]
    simp (disch := omega) only [k168_1, k168_2, k168_5, k168_6, k168_7, k168_8, k168_11, k168_12, k168_13, k168_16, k168_17, k168_18, k168_19, k168_20, k168_23, k168_25, k168_26, k168_29, k168_30, k168_31, k168_32, k168_33, k168_34, k168_35, k168_37, k168_38, k168_41, k168_43, k168_44, k168_45, k168_46, k168_47, k168_50, k168_51, k168_52, k168_55, k168_57, k168_58, k168_59, k168_62, k168_64, k168_65, k168_66, k168_67, k168_68, k168_71, k168_73, k168_74, k168_75, k168_76, k168_77, k168_80, k168_81, k168_82, k168_83, k168_86, k168_88, k168_89, k168_90, k168_91, k168_92, k168_95, k168_97, k168_98, k168_99, k168_100, k168_101, k168_104, k168_106, k168_107, k168_108, k168_109, k168_110, k168_113, k168_114, k168_115, k168_116, k168_119, k168_121, k168_122, k168_123, k168_124, k168_125, k168_128, k168_130, k168_131, k168_132, k168_133, k168_134, k168_137, k168_138, k168_139, k168_142, k168_144, k168_145, k168_146, k168_147, k168_148, k168_151, k168_153, k168_154, k168_155, k168_156, k168_157, k168_160, k168_161, k168_164, k168_165, k168_166, k168_167, k168_168, k168_169, k168_172, k168_173, k168_176, k168_179, k168_181, k168_182, k168_183, k168_186, k168_189, k168_193, k168_196, k168_199, k168_200, k168_203, k168_205, k168_208, k168_209, k168_210, k168_211, k168_212, k168_215, k168_217, k168_218, k168_219, k168_222, k168_224, k168_225, k168_226, k168_229, k168_231, k168_232, k168_233, k168_236, k168_238, k168_239, k168_242, k168_243, cs, ss, if_true, if_false, ite_true, ite_false, not_true_eq_false, not_false_eq_true, true_or, or_true, false_or, or_false, and_self, ok_n0, ok_ni, ok_nr, ok_nl, va_rf_some, va_rf_none, true_and, and_true, List.length_nil, List.length_cons, Option.toList_some, Option.toList_none, List.cons_append, List.nil_append, rK_uA, rK_uI, rK_uJ, rK_uP, rP_uA, rP_uI, rP_uJ, rJ_uA, rJ_uI, rJ_uP, rI_uJ, rI_uP, rz_uA, rz_uI, rz_uJ, rz_uP, rs_uA, rs_uI, rs_uJ, rs_uP, Nat.reduceAdd, Nat.reduceMul, Nat.reduceSub, Nat.reduceLeDiff, Nat.reduceLT, Nat.reduceEqDiff, Nat.add_zero, Nat.zero_add, Nat.zero_le, t1.1, show ¬ nI 0 ≤ (-1 : Int32) by decide +kernel]
    have := hQ h (SCR.rf M h) (fun z => by rw [e] at z; cases z)
    rw [e] at this
    exact this
end INV
