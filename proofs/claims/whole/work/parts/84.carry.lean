/-! A WINDOW CARRIED OVER, AND ONE TURNED TO -/
theorem hm_step (h : pm_H) (M : Nat) (F : Nat → Int32) (s : Nat) (a b : Nat → Int32) : HM (HM h M F s a) M (rI (HM h M F s a) (M + 1)) s b = HM h M F s b := by
  have : rI (HM h M F s a) (M + 1) = lft F s a := by rw [HM, rI_uA, if_pos rfl]
  rw [this, HM_HM]
theorem ins_cg {a b : Nat → Int32} {i p c S : Nat} (w : Int32) (hi : i < 9) (hp : p ≤ c) (hc : c < 60) (hS : 620 ≤ S) (ha : ∀ e, 35 ≤ e → e < 980 → ¬ e = S → a e = b e) : ∀ e, 35 ≤ e → e < 980 → ¬ e = S → insV a i p c w e = insV b i p c w e := by
  intro e h1 h2 h3
  simp only [insV, upd_at, va_cpy]
  by_cases c1 : e = 35 + 65 * i + 4
  · rw [if_pos c1, if_pos c1]
  · rw [if_neg c1, if_neg c1]
    by_cases c2 : e = 35 + 65 * i + 3
    · rw [if_pos c2, if_pos c2]
    · rw [if_neg c2, if_neg c2]
      by_cases c3 : e = 35 + 65 * i + 5 + p
      · rw [if_pos c3, if_pos c3]
      · rw [if_neg c3, if_neg c3]
        split
        · exact ha _ (by omega) (by omega) (by omega)
        · exact ha _ h1 h2 h3
theorem rem_cg {a b : Nat → Int32} {i p c : Nat} (hi : i < 9) (hp : p < c) (hc : c ≤ 60) (ha : ∀ e, 35 ≤ e → a e = b e) : ∀ e, 35 ≤ e → remV a i p c e = remV b i p c e := by
  intro e h1
  simp only [remV, upd_at, va_cpy]
  rw [ha (35 + 65 * i + 4) (by omega)]
  by_cases c1 : e = 35 + 65 * i + 4
  · rw [if_pos c1, if_pos c1]
  · rw [if_neg c1, if_neg c1]
    by_cases c2 : e = 35 + 65 * i + 3
    · rw [if_pos c2, if_pos c2]
    · rw [if_neg c2, if_neg c2]
      by_cases c3 : e = 35 + 65 * i + 5 + (c - 1)
      · rw [if_pos c3, if_pos c3]
      · rw [if_neg c3, if_neg c3]
        split
        · exact ha _ (by omega)
        · exact ha _ h1
section CARRY
variable {v : Nat → Int32} {n c : Nat} {p lo r rl C H P : Nat → Nat}
/-- the row without its window, the window gone -/
def goneV (v : Nat → Int32) (w i p c : Nat) : Nat → Int32 := fun e => if 620 + 6 * w ≤ e ∧ e < 620 + 6 * w + 6 then nI 0 else remV v i p c e
theorem gone_ri (q : RI v C H P) {w : Nat} (hw : w < 60) (ht : v (620 + 6 * w) = nI 1) : RI (goneV v w (H w) (P w) (C (H w))) (fun k => if k = H w then C (H w) - 1 else C k) H (fun x => if H x = H w ∧ P w < P x then P x - 1 else P x) := by
  obtain ⟨g1, g2, g3⟩ := q.hp w hw ht
  have hc := q.c60 _ g1
  refine q.rem hw ht rfl rfl rfl (fun e h1 h2 h3 h4 => ?_) (fun x hx => ?_) ?_ ?_ (fun k hk => ?_) (fun k h1 h2 => ?_) (fun x hx => ?_)
  · rw [goneV, if_neg (by omega), rem_o v g2 hc (by omega)]
  · rw [goneV, if_neg (by omega), rem_o v g2 hc (by omega)]
  · rw [goneV, if_neg (by omega), rem_3]
  · rw [goneV, if_neg (by omega), rem_4]
    rcases q.fo _ g1 with ⟨h0, _⟩ | ⟨f, h1, h2⟩
    · omega
    · rw [h2]
      simp (disch := omega) only [ar_lt, ar_eq]
      by_cases e : P w < f ∨ f = C (H w) - 1
      · rw [if_pos e]
        by_cases f0 : f = 0
        · left
          subst f0
          refine ⟨by omega, by decide +kernel⟩
        · right
          exact ⟨f - 1, by omega, by rw [ar_m1 (by omega)]⟩
      · rw [if_neg e]
        exact Or.inr ⟨f, by omega, rfl⟩
  · rw [goneV, if_neg (by omega), rem_k v g2, if_neg (by omega)]
    by_cases e : k < P w
    · rw [if_neg (by omega), if_pos e]
    · rw [if_pos (by omega), if_neg e]
  · rw [goneV, if_neg (by omega), rem_k v g2]
    by_cases e : k = C (H w) - 1
    · rw [if_pos e]
    · rw [if_neg e, if_neg (by omega)]; exact q.zo _ k g1 (by omega) h2
  · rw [goneV, if_pos (by omega)]
theorem RI.insp (q : RI v C H P) {i : Nat} (hi : i < 9) : ∃ p, p ≤ C i ∧ ((v (35 + 65 * i + 4) = -1 ∧ p = 0) ∨ v (35 + 65 * i + 4) = nI p) := by
  rcases q.fo i hi with ⟨h0, h1⟩ | ⟨f, h1, h2⟩
  · exact ⟨0, by omega, Or.inl ⟨h1, rfl⟩⟩
  · exact ⟨f, by omega, Or.inr h2⟩
theorem ins_ri (q : RI v C H P) {w i p : Nat} (hw : w < 60) (ht : ¬ v (620 + 6 * w) = nI 1) (hi : i < 9) (hp : p ≤ C i) : RI (upd (insV v i p (C i) (nI w)) (620 + 6 * w) (nI 1)) (fun k => if k = i then C i + 1 else C k) (fun x => if x = w then i else H x) (fun x => if x = w then p else if H x = i ∧ p ≤ P x then P x + 1 else P x) := by
  have hc := q.room hw ht hi
  refine q.ins hw ht hi rfl hp (fun e h1 h2 h3 h4 => ?_) (fun x hx => ?_) ?_ ?_ (fun k hk => ?_) (fun k h1 h2 => ?_) ?_
  · rw [upd_at, if_neg h4, ins_o v _ hp hc (by omega)]
  · rw [upd_at, if_neg (by omega), ins_o v _ hp hc (by omega)]
  · rw [upd_at, if_neg (by omega), ins_3]
  · rw [upd_at, if_neg (by omega), ins_4]
  · rw [upd_at, if_neg (by omega), ins_k v _ hp]
    rcases Nat.lt_trichotomy k p with hlt | heq | hgt
    · rw [if_neg (by omega), if_neg (by omega), if_pos hlt]
    · rw [if_pos heq, if_neg (by omega), if_pos heq]
    · rw [if_neg (by omega), if_pos (by omega), if_neg (by omega), if_neg (by omega)]
  · rw [upd_at, if_neg (by omega), ins_k v _ hp, if_neg (by omega), if_neg (by omega)]
  · rw [upd_at, if_pos rfl]
theorem carry_all (s : SI v n c p lo r rl) (q : RI v C H P) {w j : Nat} (hw : w < 60) (ht : v (620 + 6 * w) = nI 1) (hj : j < 9) (hne : ¬ H w = j) : ∃ v' c' p' lo' r' rl' C' H' P', SI v' n c' p' lo' r' rl' ∧ RI v' C' H' P' ∧ (∀ h M s, MV h M s v → ∀ Q, pGo 137 0 [some (.ref M), some (.int (nI w)), some (.int (nI j)), none, none] [] h Q = Q (none, HM h M (rI h (M + 1)) s v')) ∧ ∀ h d, DV h d v n C H → ∃ h', (∀ Q, pGo 20 0 [some (.ref d), some (.int (nI w)), some (.int (nI j)), none, none] [] h Q = Q (none, h')) ∧ DV h' d v' n C' H' ∧ FRD d (d + 53) h h' := by
  obtain ⟨g1, g2, g3⟩ := q.hp w hw ht
  have hc := q.c60 _ g1
  have n4 := s.n4
  have cn := s.cn
  have pc9 := (s.pj cn).1
  obtain ⟨fw, fw1, fw2⟩ : ∃ f, f < C (H w) ∧ v (35 + 65 * H w + 4) = nI f := by
    rcases q.fo _ g1 with ⟨h0, _⟩ | z
    · omega
    · exact z
  -- the vectors
  obtain ⟨v1, c1, p1, lo1, r1, rl1, s1, V1, -⟩ := view_all s g1 false
  have q1 : RI v1 C H P := q.cg (fun e h1 _ => V1.1.1 e h1)
  have e2 : ∀ e, e < 35 → remV v1 (H w) (P w) (C (H w)) e = v1 e := fun e he => rem_o v1 g2 hc (by omega)
  obtain ⟨v3, c3, p3, lo3, r3, rl3, s3, V3, -⟩ := view_all (s1.cg e2) pc9 false
  obtain ⟨v4, c4, p4, lo4, r4, rl4, s4, V4, -⟩ := view_all s3 hj false
  have qg := gone_ri q hw ht
  obtain ⟨pp, pp1, pp2⟩ := qg.insp hj
  have zg : ¬ goneV v w (H w) (P w) (C (H w)) (620 + 6 * w) = nI 1 := by rw [goneV, if_pos (by omega)]; exact n0_1
  have room := qg.room hw zg hj
  simp only [show ¬ j = H w from fun z => hne z.symm, if_false] at pp1 room
  have e4 : ∀ e, 35 ≤ e → v4 e = remV v (H w) (P w) (C (H w)) e := fun e he => by
    rw [V4.1.1 e he, V3.1.1 e he]
    exact rem_cg g1 g2 hc (fun e he => V1.1.1 e he) e he
  have ej : ∀ x, x < 65 → v4 (35 + 65 * j + x) = v (35 + 65 * j + x) := fun x hx => by
    rw [e4 _ (by omega), rem_o v g2 hc (by omega)]
  have pp3 : (v4 (35 + 65 * j + 4) = -1 ∧ pp = 0) ∨ v4 (35 + 65 * j + 4) = nI pp := by
    rw [ej 4 (by omega)]
    rw [goneV, if_neg (by omega), rem_o v g2 hc (by omega)] at pp2
    exact pp2
  have ct4 : v4 (35 + 65 * j + 3) = nI (C j) := by rw [ej 3 (by omega)]; exact q.ct j hj
  have e5 : ∀ e, e < 35 → insV v4 j pp (C j) (nI w) e = v4 e := fun e he => ins_o v4 _ pp1 room (by omega)
  obtain ⟨v6, c6, p6, lo6, r6, rl6, s6, V6, -⟩ := view_all (s4.cg e5) pc9 false
  have e6 : ∀ e, 35 ≤ e → v6 e = insV v4 j pp (C j) (nI w) e := fun e he => V6.1.1 e he
  -- the rows behind it
  have qi := ins_ri qg hw zg hj (p := pp) (by simp only [show ¬ j = H w from fun z => hne z.symm, if_false]; exact pp1)
  simp only [show ¬ j = H w from fun z => hne z.symm, if_false] at qi
  have ev6 : ∀ e, 35 ≤ e → e < 980 → ¬ (620 + 6 * w ≤ e ∧ e < 620 + 6 * w + 6) → v6 e = upd (insV (goneV v w (H w) (P w) (C (H w))) j pp (C j) (nI w)) (620 + 6 * w) (nI 1) e := fun e h1 h2 h3 => by
    rw [e6 e h1, upd_at, if_neg (by omega)]
    simp only [insV, upd_at, va_cpy]
    by_cases x1 : e = 35 + 65 * j + 4
    · rw [if_pos x1, if_pos x1]
    · rw [if_neg x1, if_neg x1]
      by_cases x2 : e = 35 + 65 * j + 3
      · rw [if_pos x2, if_pos x2]
      · rw [if_neg x2, if_neg x2]
        by_cases x3 : e = 35 + 65 * j + 5 + pp
        · rw [if_pos x3, if_pos x3]
        · rw [if_neg x3, if_neg x3]
          split
          · rw [e4 _ (by omega), goneV, if_neg (by omega)]
          · rw [e4 _ h1, goneV, if_neg h3]
  have ev6s : ∀ e, 620 + 6 * w ≤ e → e < 620 + 6 * w + 6 → v6 e = v e := fun e h1 h2 => by
    rw [e6 e (by omega), ins_o v4 _ pp1 room (by omega), e4 e (by omega), rem_o v g2 hc (by omega)]
  have q6 := RI.set5 (v' := v6) qi hw (by rw [upd_at, if_pos rfl]) (fun e h1 h2 h3 => by
    by_cases x : e = 620 + 6 * w
    · subst x; rw [ev6s _ (by omega) (by omega), ht, upd_at, if_pos rfl]
    · exact ev6 e h1 h2 (by omega)) (by
    rw [ev6s _ (by omega) (by omega)]
    rcases q.fl w hw with ⟨x1, x2⟩ | ⟨x1, x2⟩
    · exact Or.inl ⟨x1, fun c hc => by rw [ev6s _ (by omega) (by omega)]; exact x2 c hc⟩
    · exact Or.inr x1) (fun c hc => by rw [ev6s _ (by omega) (by omega)]; exact q.sh w c hw hc)
  refine ⟨v6, c6, p6, lo6, r6, rl6, _, _, _, s6, q6, fun h M so t Q => ?_, fun h d t => ?_⟩
  · -- the model
    have m1 := V1.2.1 h M so t
    have t1 := t.HM (rI h (M + 1)) v1
    have m2 := s_remove t1 g1 (q1.ct _ g1) hc (nI w) (q1.plc_y hw (by rw [V1.1.1 _ (by omega)]; exact ht)) g2
    have t2 := t.HM (rI h (M + 1)) (remV v1 (H w) (P w) (C (H w)))
    have m3 := V3.2.1 _ M so t2
    have t3 := t.HM (rI h (M + 1)) v3
    have m4 := V4.2.1 _ M so t3
    have t4 := t.HM (rI h (M + 1)) v4
    have m5 := s_insert t4 hj ct4 room pp3 pp1 (nI w)
    have t5 := t.HM (rI h (M + 1)) (insV v4 j pp (C j) (nI w))
    have m6 := V6.2.1 _ M so t5
    simp only [nb_f, hm_step] at m1 m2 m3 m4 m5 m6
    have hne' : ¬ nI (H w) = nI j := by rw [ar_eq (by omega) (by omega)]; exact hne
    have cs := s_currentSpace t s.v1 (by omega)
    rw [s.sh c cn] at cs
    have ho := s_homeOf t q.ct q.c60 (nI w)
    rw [q.hom_y hw ht] at ho
    simp only [k137_0, k137_1, k137_2, k137_5, k137_6, k137_7, k137_8, k137_11, k137_12, k137_13, k137_16, k137_18, k137_19, k137_20, k137_21, k137_24, k137_25, k137_26, k137_27, k137_30, k137_31, k137_33, k137_34, k137_37, k137_38, k137_39, k137_40, k137_43, k137_44, k137_45, k137_46, k137_49, k137_50, k137_52, k137_53, k137_56, ho, cs, m1, m2, m3, m4, m5, m6, hne', if_true, if_false, ite_true, ite_false, not_true_eq_false, not_false_eq_true, true_or, or_true, false_or, or_false, and_self, ok_n0, ok_ni, ok_nr, ok_nl, va_rf_some, va_rf_none, true_and, and_true, List.length_nil, List.length_cons, Option.toList_some, Option.toList_none, List.cons_append, List.nil_append, rK_uA, rK_uI, rK_uJ, rK_uP, rP_uA, rP_uI, rP_uJ, rJ_uA, rJ_uI, rJ_uP, rI_uJ, rI_uP, rz_uA, rz_uI, rz_uJ, rz_uP, rs_uA, rs_uI, rs_uJ, rs_uP, Nat.reduceAdd, Nat.reduceMul, Nat.reduceSub, Nat.reduceLeDiff, Nat.reduceLT, Nat.reduceEqDiff, Nat.add_zero, Nat.zero_add, Nat.zero_le, t.1.1, rK_HM]
  · -- the desk
    have ds := t.ds s q
    obtain ⟨k0, k1, k2, k3, k4, k5, k6, k7, k8, k9, k10, k11, k12, k13⟩ := t.k
    obtain ⟨h1, x1, D1, f1⟩ := V1.2.2 h d t.dvs
    have t1 := t.mix D1 n4 f1
    have q1' : RI (mixV v1 v) C H P := q.cg (fun e h1 _ => mix_hi _ _ h1)
    have s1' : SI (mixV v1 v) n c1 p1 lo1 r1 rl1 := s1.cg (fun e he => mix_lo _ _ he)
    obtain ⟨h2, x2, t2, f2⟩ := t1.rem (t1.ds s1' q1') n4 hw g1 rfl (by rw [mix_hi _ _ (by omega)]; exact ht) (q1'.ord_fnd t1 hw (by rw [mix_hi _ _ (by omega)]; exact ht)) g2 q.c60 ⟨fw, fw1, by rw [mix_hi _ _ (by omega)]; exact fw2⟩
    have D2 : DVS h2 d (remV v1 (H w) (P w) (C (H w))) n := t2.dvs.cg n4 (fun e he => by rw [e2 e he, upd_at, if_neg (by omega), rem_o _ g2 hc (by omega), mix_lo _ _ he])
    obtain ⟨h3, x3, D3, f3⟩ := V3.2.2 h2 d D2
    have t3 := t2.mix D3 n4 f3
    obtain ⟨h4, x4, D4, f4⟩ := V4.2.2 h3 d D3
    have t4 := t3.mix D4 n4 f4
    have u4 : ∀ e, 35 ≤ e → mixV v4 (mixV v3 (upd (remV (mixV v1 v) (H w) (P w) (C (H w))) (620 + 6 * w) (nI 0))) e = upd (remV v (H w) (P w) (C (H w))) (620 + 6 * w) (nI 0) e := fun e he => by
      rw [mix_hi _ _ he, mix_hi _ _ he, upd_at, upd_at]
      split
      · rfl
      · exact rem_cg g1 g2 hc (fun e he => mix_hi _ _ he) e he
    have uj : ∀ x, x < 65 → mixV v4 (mixV v3 (upd (remV (mixV v1 v) (H w) (P w) (C (H w))) (620 + 6 * w) (nI 0))) (35 + 65 * j + x) = v (35 + 65 * j + x) := fun x hx => by
      rw [u4 _ (by omega), upd_at, if_neg (by omega), rem_o v g2 hc (by omega)]
    have c60' : ∀ k, k < 9 → (fun k => if k = H w then C (H w) - 1 else C k) k ≤ 60 := fun k hk => by have := q.c60 k hk; simp only; split <;> omega
    have ct' : ∀ i, i < 9 → rI h4 (d + 4 + 4 * i) 1 = nI ((fun k => if k = H w then C (H w) - 1 else C k) i) := fun i hi => by
      rw [t4.cnt i hi, u4 _ (by omega), upd_at, if_neg (by omega)]
      by_cases e : i = H w
      · subst e; simp only [if_true]; exact rem_3 v _ _ _
      · simp only [e, if_false]; rw [rem_o v g2 hc (by omega)]; exact q.ct i hi
    have ds4 : DS h4 d (fun k => if k = H w then C (H w) - 1 else C k) n c4 (n - 1) (9 - n) := ⟨t4.k, fun i hi => ⟨ct' i hi, c60' i hi⟩, D4.sc s4⟩
    obtain ⟨h5, x5, t5, f5⟩ := t4.ins ds4 n4 (w := w) hw hj (p := pp) (by rw [uj 4 (by omega), ← ej 4 (by omega)]; exact pp3) (by simp only [show ¬ j = H w from fun z => hne z.symm, if_false]; exact pp1) (by simp only [show ¬ j = H w from fun z => hne z.symm, if_false]; exact room) c60'
    simp only [show ¬ j = H w from fun z => hne z.symm, if_false] at t5
    have D5 : DVS h5 d (insV v4 j pp (C j) (nI w)) n := t5.dvs.cg n4 (fun e he => by rw [e5 e he, upd_at, if_neg (by omega), ins_o _ _ pp1 room (by omega), mix_lo _ _ he])
    obtain ⟨h6, x6, D6, f6⟩ := V6.2.2 h5 d D5
    have t6 := t5.mix D6 n4 f6
    have F1 : FRD d (d + 53) h h1 := f1.mono (by omega) (by omega)
    have F2 := F1.tr f2
    have F3 := F2.tr (f3.mono (a' := d) (b' := d + 53) (by omega) (by omega))
    have F4 := F3.tr (f4.mono (a' := d) (b' := d + 53) (by omega) (by omega))
    have F5 := F4.tr f5
    have F6 := F5.tr (f6.mono (a' := d) (b' := d + 53) (by omega) (by omega))
    refine ⟨h6, fun Q => ?_, t6.cgv n4 (fun k hk => by have := q.c60 k hk; (try simp only); split <;> (try split) <;> omega) (fun e he => ?_), F6⟩
    · have hom := t.hom w hw
      rw [if_pos ht] at hom
      have hne' : ¬ nI (H w) = nI j := by rw [ar_eq (by omega) (by omega)]; exact hne
      have cw := s_Screens_currentWorkspace (t.dvs.sc s)
      rw [t.ws c cn, s.sh c cn] at cw
      rw [brm_f] at x1 x3 x4 x6
      simp (disch := omega) only [k20_0, k20_1, k20_4, k20_5, k20_6, k20_7, k20_8, k20_9, k20_12, k20_13, k20_14, k20_17, k20_20, k20_22, k20_23, k20_26, k20_27, k20_30, k20_31, k20_32, k20_35, k20_36, k20_39, k20_41, k20_44, k20_45, k20_48, k20_49, k20_52, k20_53, k20_54, k20_55, k20_58, k20_59, k20_62, k20_64, k20_67, cw, x1, x2, x3, x4, x5, x6, hom, hne', if_true, if_false, ite_true, ite_false, not_true_eq_false, not_false_eq_true, true_or, or_true, false_or, or_false, and_self, ok_n0, ok_ni, ok_nr, ok_nl, va_rf_some, va_rf_none, true_and, and_true, List.length_nil, List.length_cons, Option.toList_some, Option.toList_none, List.cons_append, List.nil_append, rK_uA, rK_uI, rK_uJ, rK_uP, rP_uA, rP_uI, rP_uJ, rJ_uA, rJ_uI, rJ_uP, rI_uJ, rI_uP, rz_uA, rz_uI, rz_uJ, rz_uP, rs_uA, rs_uI, rs_uJ, rs_uP, Nat.reduceAdd, Nat.reduceMul, Nat.reduceSub, Nat.reduceLeDiff, Nat.reduceLT, Nat.reduceEqDiff, Nat.add_zero, Nat.zero_add, Nat.zero_le, k0, k8, k9.1, k12, k13, ar_oki, ar_cl, hw, F1.fk, F1.fp, F2.fk, F2.fp, F3.fk, F3.fp, F4.fk, F4.fp, F5.fk, F5.fp]
    · by_cases lo35 : e < 35
      · rw [mix_lo _ _ lo35]
      · rw [mix_hi _ _ (by omega), upd_at]
        by_cases x : e = 620 + 6 * w
        · rw [if_pos x, x, ev6s _ (by omega) (by omega)]; exact ht
        · rw [if_neg x, e6 e (by omega)]
          refine (ins_cg (S := 620 + 6 * w) _ hj pp1 room (by omega) (fun e h1 h2 h3 => ?_) e (by omega) he x).symm
          rw [u4 e h1, upd_at, if_neg h3, e4 e h1]
end CARRY
