/-! EVENTS, 5: the readers; undo, redo -/
section EVS5
variable {h : pm_H} {X hd un wt d B F : Nat} {V : Nat → Nat → Int32} {W : Nat → Int32} {Sl : Nat → Option Nat}
theorem e_workspace (R : XR h X hd un V wt W d B F Sl) (N : MR h (X + 115) hd un V wt W) (a b : Int32) : EV X h 103 [some (.ref X), some (.int a), some (.int b)] 173 [some (.ref (X + 115)), some (.int a), some (.int b)] := by
  obtain ⟨v, n, c, p, lo, r, rl, C, H, P, Z⟩ := rel_now R N
  exact ev_no _ R N (fun Q => x_workspace Z a b Q) (fun Q => m_workspace Z a b Q)
theorem e_screen (R : XR h X hd un V wt W d B F Sl) (N : MR h (X + 115) hd un V wt W) (a b : Int32) : EV X h 104 [some (.ref X), some (.int a), some (.int b)] 174 [some (.ref (X + 115)), some (.int a), some (.int b), none] := by
  obtain ⟨v, n, c, p, lo, r, rl, C, H, P, Z⟩ := rel_now R N
  exact ev_no _ R N (fun Q => x_screen Z a b Q) (fun Q => m_screen Z a b Q)
theorem e_count (R : XR h X hd un V wt W d B F Sl) (N : MR h (X + 115) hd un V wt W) (a : Int32) : EV X h 105 [some (.ref X), some (.int a)] 175 [some (.ref (X + 115)), some (.int a), none, none, none] := by
  obtain ⟨v, n, c, p, lo, r, rl, C, H, P, Z⟩ := rel_now R N
  exact ev_no _ R N (fun Q => x_count Z (rel_hwt R N) a Q) (fun Q => m_count Z (rel_hwt R N) a Q)
theorem e_row (R : XR h X hd un V wt W d B F Sl) (N : MR h (X + 115) hd un V wt W) (a b : Int32) : EV X h 106 [some (.ref X), some (.int a), some (.int b), none, none] 176 [some (.ref (X + 115)), some (.int a), some (.int b), none, none, none] := by
  obtain ⟨v, n, c, p, lo, r, rl, C, H, P, Z⟩ := rel_now R N
  exact ev_no _ R N (fun Q => x_row Z a b Q) (fun Q => m_row Z a b Q)
theorem e_window (R : XR h X hd un V wt W d B F Sl) (N : MR h (X + 115) hd un V wt W) (a b : Int32) : EV X h 107 [some (.ref X), some (.int a), some (.int b)] 177 [some (.ref (X + 115)), some (.int a), some (.int b), none] := by
  obtain ⟨v, n, c, p, lo, r, rl, C, H, P, Z⟩ := rel_now R N
  exact ev_no _ R N (fun Q => x_window Z a b Q) (fun Q => m_window Z a b Q)
theorem e_place (R : XR h X hd un V wt W d B F Sl) (N : MR h (X + 115) hd un V wt W) (a b : Int32) : EV X h 108 [some (.ref X), some (.int a), some (.int b), none] 178 [some (.ref (X + 115)), some (.int a), some (.int b), none] := by
  obtain ⟨v, n, c, p, lo, r, rl, C, H, P, Z⟩ := rel_now R N
  exact ev_no _ R N (fun Q => x_place Z a b Q) (fun Q => m_place Z a b Q)
theorem e_shown (R : XR h X hd un V wt W d B F Sl) (N : MR h (X + 115) hd un V wt W) (a b : Int32) : EV X h 109 [some (.ref X), some (.int a), some (.int b)] 172 [some (.ref (X + 115)), some (.int a), some (.int b)] := by
  obtain ⟨v, n, c, p, lo, r, rl, C, H, P, Z⟩ := rel_now R N
  obtain ⟨⟨r1, h1⟩, ⟨a1, f1⟩, e1⟩ := pGo_ex (x_shown Z a b (fun z => z.1 = some (.int (shwV v n lo C H P a b)) ∧ FRM X (X + 115) h z.2) (fun h' f => ⟨rfl, f⟩))
  obtain ⟨⟨r2, h2⟩, ⟨a2, f2⟩, e2⟩ := pGo_ex (m_shown (Z.frm f1) a b (fun z => z.1 = some (.int (shwV v n lo C H P a b)) ∧ FRM X (X + 115) h1 z.2) (fun h' f => ⟨rfl, f⟩))
  have a1 : r1 = some (.int (shwV v n lo C H P a b)) := a1
  have a2 : r2 = some (.int (shwV v n lo C H P a b)) := a2
  subst a1
  subst a2
  exact ev_frm _ R N f1 f2 e1 e2
theorem e_at (R : XR h X hd un V wt W d B F Sl) (N : MR h (X + 115) hd un V wt W) (a b : Int32) : EV X h 110 [some (.ref X), some (.int a), some (.int b)] 171 [some (.ref (X + 115)), some (.int a), some (.int b), none, none, none, none, none, none, none] := by
  obtain ⟨v, n, c, p, lo, r, rl, C, H, P, Z⟩ := rel_now R N
  obtain ⟨⟨r1, h1⟩, ⟨a1, f1⟩, e1⟩ := pGo_ex (x_at Z a b (fun z => z.1 = some (.int (atV v n p lo C H P a b)) ∧ FRM X (X + 115) h z.2) (fun h' f => ⟨rfl, f⟩))
  obtain ⟨⟨r2, h2⟩, ⟨a2, f2⟩, e2⟩ := pGo_ex (m_at (Z.frm f1) a b (fun z => z.1 = some (.int (atV v n p lo C H P a b)) ∧ FRM X (X + 115) h1 z.2) (fun h' f => ⟨rfl, f⟩))
  have a1 : r1 = some (.int (atV v n p lo C H P a b)) := a1
  have a2 : r2 = some (.int (atV v n p lo C H P a b)) := a2
  subst a1
  subst a2
  exact ev_frm _ R N f1 f2 e1 e2
def EVL (X : Nat) (h : pm_H) (m1 : Nat) (L1 : pm_L) (m2 : Nat) (L2 : pm_L) : Prop := ∃ (x : Int64) (h2 : pm_H), (∀ Q, pGo m1 0 L1 [] h Q = Q (some (.long x), h)) ∧ (∀ Q, pGo m2 0 L2 [] h Q = Q (some (.long x), h2)) ∧ RELS h2 X ∧ STP X h h2
theorem e_sum (R : XR h X hd un V wt W d B F Sl) (N : MR h (X + 115) hd un V wt W) : EVL X h 111 [some (.ref X), none, none, none] 180 [some (.ref (X + 115)), none, none, none, none] := by
  obtain ⟨v, n, c, p, lo, r, rl, C, H, P, Z⟩ := rel_now R N
  obtain ⟨⟨r2, h2⟩, ⟨a2, f2⟩, e2⟩ := pGo_ex (m_sum Z (fun z => z.1 = some (.long (sumV v n c C)) ∧ FRM X (X + 115) h z.2) (fun h' f => ⟨rfl, f⟩))
  have a2 : r2 = some (.long (sumV v n c C)) := a2
  subst a2
  exact ⟨_, h2, fun Q => x_sum Z Q, e2, ⟨_, _, _, _, _, _, _, _, _, R.cg f2.xc, f2.mr N⟩, f2.stp⟩
/-! undo and redo: the desk in use is changed for one of the history -/
theorem XR.swp {k0 a hd' un' : Nat} (R : XR h X hd un V wt W d B F Sl) (hk0 : k0 < hd + un) (ha : Sl ((F + k0) % 40) = some a) (hs : hd' + un' = hd + un) (hV : GD h a (V hd')) (hW : ∀ j, j < hd + un → ¬ j = k0 → (if j < hd' then j else j + 1) = (if j < hd then j else j + 1)) (hW0 : (if k0 < hd' then k0 else k0 + 1) = hd) : XR (uP (uP (uI (uI h (X + 107) 2 (nI hd')) (X + 107) 3 (nI un')) (X + 107 + 1) ((F + k0) % 40) (some d)) X 0 (some a)) X hd' un' V wt W a B F (fun k => if k = (F + k0) % 40 then some d else Sl k) ∧ XF X h (uP (uP (uI (uI h (X + 107) 2 (nI hd')) (X + 107) 3 (nI un')) (X + 107 + 1) ((F + k0) % 40) (some d)) X 0 (some a)) := by
  have hu := R.hu
  have bd := R.od.lo
  have hm : (F + k0) % 40 < 40 := Nat.mod_lt _ (by omega)
  obtain ⟨o1, o2, o3, o4⟩ := R.os _ a hm ha
  generalize hh : uP (uI (uI h (X + 107) 2 (nI hd')) (X + 107) 3 (nI un')) (X + 107 + 1) ((F + k0) % 40) (some d) = h1
  have eK : rK h1 = rK h := by rw [← hh, rK_uP, rK_uI, rK_uI]
  have ez : rz h1 = rz h := by rw [← hh, rz_uP, rz_uI, rz_uI]
  have es : rs h1 = rs h := by rw [← hh, rs_uP, rs_uI, rs_uI]
  have c : ∀ q, ¬ q = X + 107 → ¬ q = X + 108 → SQ h h1 q := fun q h1 h2 => by rw [← hh]; exact ((SQ.uI _ _ _ h1).tr (SQ.uI _ _ _ h1)).tr (SQ.uP _ _ _ h2)
  have cP : ∀ q, ¬ q = X + 108 → rP h1 q = rP h q := fun q h1 => by rw [← hh, rP_uPo _ _ _ h1, rP_uI, rP_uI]
  have cS : ∀ k, rP h1 (X + 108) k = if k = (F + k0) % 40 then some d else rP h (X + 108) k := fun k => by rw [← hh, rP_uPs, rP_uI, rP_uI]
  have cI : ∀ k, rI h1 (X + 107) k = if k = 3 then nI un' else if k = 2 then nI hd' else rI h (X + 107) k := fun k => by rw [← hh, rI_uP, rI_uI, if_pos rfl, upd_at, rI_uI, if_pos rfl, upd_at]
  have c2 : ∀ q, ¬ q = X → ¬ q = X + 107 → ¬ q = X + 108 → SQ h (uP h1 X 0 (some a)) q := fun q h0 h1 h2 => (c q h1 h2).tr (SQ.uP _ _ _ h0)
  have bl : ∀ {z b}, DA X z b → ∀ q, b ≤ q → q < b + 53 → SQ h (uP h1 X 0 (some a)) q := fun x q h1 h2 => c2 q (by have := x.lo; omega) (by have := x.lo; omega) (by have := x.lo; omega)
  have dkb : ∀ {z b}, DA X z b → DK h b → DK (uP h1 X 0 (some a)) b := fun x k => k.cgl (fun q h1 h2 => ⟨(bl x q h1 h2).1, (bl x q h1 h2).2.2.2⟩)
  have dkd : DK h d := by
    obtain ⟨n, c, p, lo, r, rl, C, H, P, s, q, t⟩ := R.gd
    exact t.k
  obtain ⟨k0', k1, k2, k3, k4, k5, k6, k7, k8, k9, k10⟩ := R.xk
  refine ⟨⟨⟨?_, ?_, ?_, ?_, ?_, ?_, ?_, fun j hj => ?_, fun j hj => ?_, ?_, ?_⟩, by rw [rz_uP, ez]; exact R.zz, by rw [rP_uPs, if_pos rfl], by rw [rP_uPs, if_neg (by omega), cP _ (by omega)]; exact R.pb, by omega, R.f40, by rw [rI_uP, cI, if_neg (by omega), if_neg (by omega)]; exact R.f1, by rw [rI_uP, cI, if_neg (by omega), if_pos rfl], by rw [rI_uP, cI, if_pos rfl], fun k hk => ?_, by rw [rz_uP, ez]; exact o1, by rw [rz_uP, ez]; exact R.ob, dkb R.ob R.kb, o4, fun k b hk hb => ?_, fun k l b hk hl hb hc => ?_, hV.cgl (bl o1), fun j hj => ?_, R.w4, by rw [rI_uP, (c X (by omega) (by omega)).2.1]; exact R.wi, fun j c3 hj hc => ?_, R.wr⟩, ⟨fun q hq => c2 q (by omega) (by omega) (by omega), by rw [rz_uP]; omega, by rw [rs_uP]; omega⟩⟩
  · rw [rK_uP, eK]; exact k0'
  · rw [rP_uPs, if_neg (by omega), cP _ (by omega)]; exact k1
  · rw [rK_uP, eK]; exact k2
  · rw [rP_uPo _ _ _ (by omega), cP _ (by omega)]; exact k3
  · rw [rK_uP, eK]; exact k4
  · rw [rP_uPs, if_neg (by omega), cP _ (by omega)]; exact k5
  · rw [rK_uP, eK]; exact k6
  · rw [rP_uPo _ _ _ (by omega), cP _ (by omega)]; exact k7 j hj
  · rw [rK_uP, eK]; exact k8 j hj
  · rw [rP_uPs, if_neg (by omega), cP _ (by omega)]; exact k9
  · rw [rK_uP, eK]; exact k10
  · rw [rP_uPo _ _ _ (by omega), cS]
    show _ = (if k = (F + k0) % 40 then some d else Sl k)
    by_cases e : k = (F + k0) % 40
    · rw [if_pos e, if_pos e]
    · rw [if_neg e, if_neg e]; exact R.sl k hk
  · have hb : (if k = (F + k0) % 40 then some d else Sl k) = some b := hb
    by_cases e : k = (F + k0) % 40
    · rw [if_pos e] at hb
      cases hb
      exact ⟨by rw [rz_uP, ez]; exact R.od, dkb R.od dkd, fun z => o3 z.symm, R.db⟩
    · rw [if_neg e] at hb
      obtain ⟨p1, p2, p3, p4⟩ := R.os k b hk hb
      exact ⟨by rw [rz_uP, ez]; exact p1, dkb p1 p2, fun z => e (R.inj k _ a hk hm (by rw [← z]; exact hb) ha), p4⟩
  · have hb : (if k = (F + k0) % 40 then some d else Sl k) = some b := hb
    have hc : (if l = (F + k0) % 40 then some d else Sl l) = some b := hc
    by_cases e : k = (F + k0) % 40
    · by_cases e' : l = (F + k0) % 40
      · omega
      · rw [if_pos e] at hb
        rw [if_neg e'] at hc
        cases hb
        exact absurd rfl (R.os l d hl hc).2.2.1
    · rw [if_neg e] at hb
      by_cases e' : l = (F + k0) % 40
      · rw [if_pos e'] at hc
        cases hc
        exact absurd rfl (R.os k d hk hb).2.2.1
      · rw [if_neg e'] at hc
        exact R.inj k l b hk hl hb hc
  · by_cases e : j = k0
    · subst e
      refine ⟨d, by show (if (F + j) % 40 = (F + j) % 40 then some d else Sl ((F + j) % 40)) = some d; rw [if_pos rfl], ?_⟩
      rw [hW0]; exact R.gd.cgl (bl R.od)
    · obtain ⟨b, b1, b2⟩ := R.gs j (by omega)
      have f40 := R.f40
      refine ⟨b, by show (if (F + j) % 40 = (F + k0) % 40 then some d else Sl ((F + j) % 40)) = some b; rw [if_neg (by omega)]; exact b1, ?_⟩
      rw [hW j (by omega) e]
      exact b2.cgl (bl (R.os _ b (Nat.mod_lt _ (by omega)) b1).1)
  · have := R.w4
    rw [rI_uP, (c (X + 110 + j) (by omega) (by omega)).2.1]; exact R.wb j c3 hj hc
theorem m_hand {hd' un' : Nat} (N : MR h (X + 115) hd un V wt W) (hs : hd' + un' = hd + un) : MR (uI (uI h (X + 115) 1 (nI hd')) (X + 115) 3 (nI (980 * hd'))) (X + 115) hd' un' V wt W ∧ MF (X + 115) h (uI (uI h (X + 115) 1 (nI hd')) (X + 115) 3 (nI (980 * hd'))) := by
  have h40 := N.h40
  refine ⟨⟨N.k, N.k2, ?_, ?_, ?_, by omega, fun j e h1 h2 => ?_, N.w4, ?_, fun k hk => ?_⟩, (MF.uI _ _ _ (by omega) (by omega)).tr (MF.uI _ _ _ (by omega) (by omega))⟩
  · rw [rI_uI, if_pos rfl, upd_at, if_neg (by omega), rI_uI, if_pos rfl, upd_at, if_pos rfl]
  · rw [rI_uI, if_pos rfl, upd_at, if_neg (by omega), rI_uI, if_pos rfl, upd_at, if_neg (by omega), hs]; exact N.m2
  · rw [rI_uI, if_pos rfl, upd_at, if_pos rfl]
  · rw [rI_uI, if_neg (by omega), rI_uI, if_neg (by omega)]; exact N.vv j e (by omega) h2
  · rw [rI_uI, if_pos rfl, upd_at, if_neg (by omega), rI_uI, if_pos rfl, upd_at, if_neg (by omega)]; exact N.wi
  · rw [rI_uI, if_neg (by omega), rI_uI, if_neg (by omega)]; exact N.wb k hk
theorem ev_two {m1 m2 : Nat} {L1 L2 : pm_L} {h1 h2 : pm_H} (x : Int32) {hd' un' wt' d' B' F' : Nat} {V' : Nat → Nat → Int32} {W' : Nat → Int32} {Sl' : Nat → Option Nat} (R : XR h1 X hd' un' V' wt' W' d' B' F' Sl') (f : XF X h h1) (N : MR h2 (X + 115) hd' un' V' wt' W') (g : MF (X + 115) h1 h2) (e1 : ∀ Q, pGo m1 0 L1 [] h Q = Q (some (.int x), h1)) (e2 : ∀ Q, pGo m2 0 L2 [] h1 Q = Q (some (.int x), h2)) : EV X h m1 L1 m2 L2 := by
  refine ⟨x, h1, h2, e1, e2, ⟨_, _, _, _, _, _, _, _, _, R.cg g.xc, N⟩, ⟨fun q hq => (f.c q (by omega)).tr ⟨by rw [g.fk], (g.c q (by omega)).1, (g.c q (by omega)).2, by rw [g.fp]⟩, by rw [g.fz]; exact f.z, by rw [g.fs]; exact f.s⟩, fun q hq => f.c q (by omega), (f.c (X + 115) (by omega)).1⟩
theorem e_undo (R : XR h X hd un V wt W d B F Sl) (N : MR h (X + 115) hd un V wt W) : EV X h 101 [some (.ref X)] 156 [some (.ref (X + 115))] := by
  have hu := R.hu
  have kX := R.xk.1
  have hk := R.hk
  have pk := R.xk.2.1
  have dk : rK h d = (1, 1) := by
    obtain ⟨n, c, p, lo, r, rl, C, H, P, s, q, t⟩ := R.gd
    exact t.k.1
  cases hd with
  | zero =>
    refine ev_no (-1) R N (fun Q => ?_) (fun Q => ?_)
    · simp only [k101_0, k101_1, k101_4, k101_7, k101_10, k101_11, k101_12, k101_13, k101_14, k101_17, k101_18, k101_21, k101_24, k101_27, k101_28, k101_31, k101_34, if_true, if_false, ite_true, ite_false, not_true_eq_false, not_false_eq_true, true_or, or_true, false_or, or_false, and_self, ok_n0, ok_ni, ok_nr, ok_nl, va_rf_some, va_rf_none, true_and, and_true, List.length_nil, List.length_cons, Option.toList_some, Option.toList_none, List.cons_append, List.nil_append, rK_uA, rK_uI, rK_uJ, rK_uP, rP_uA, rP_uI, rP_uJ, rJ_uA, rJ_uI, rJ_uP, rI_uJ, rI_uP, rz_uA, rz_uI, rz_uJ, rz_uP, rs_uA, rs_uI, rs_uJ, rs_uP, Nat.reduceAdd, Nat.reduceMul, Nat.reduceSub, Nat.reduceLeDiff, Nat.reduceLT, Nat.reduceEqDiff, Nat.add_zero, Nat.zero_add, Nat.zero_le, kX, pk, hk.1, R.f2]
    · simp only [k156_0, k156_1, k156_4, k156_7, k156_8, k156_9, k156_10, k156_10i, k156_11, k156_14, k156_15, k156_16, k156_19, k156_20, k156_23, k156_24, k156_27, k156_28, k156_31, k156_32, k156_35, if_true, if_false, ite_true, ite_false, not_true_eq_false, not_false_eq_true, true_or, or_true, false_or, or_false, and_self, ok_n0, ok_ni, ok_nr, ok_nl, va_rf_some, va_rf_none, true_and, and_true, List.length_nil, List.length_cons, Option.toList_some, Option.toList_none, List.cons_append, List.nil_append, rK_uA, rK_uI, rK_uJ, rK_uP, rP_uA, rP_uI, rP_uJ, rJ_uA, rJ_uI, rJ_uP, rI_uJ, rI_uP, rz_uA, rz_uI, rz_uJ, rz_uP, rs_uA, rs_uI, rs_uJ, rs_uP, Nat.reduceAdd, Nat.reduceMul, Nat.reduceSub, Nat.reduceLeDiff, Nat.reduceLT, Nat.reduceEqDiff, Nat.add_zero, Nat.zero_add, Nat.zero_le, N.k.1, N.m1]
  | succ k =>
    obtain ⟨a, a1, a2⟩ := R.gs k (by omega)
    rw [if_pos (by omega)] at a2
    obtain ⟨R', f'⟩ := R.swp (k0 := k) (hd' := k) (un' := un + 1) (by omega) a1 (by omega) a2 (fun j hj hne => by
      by_cases e : j < k
      · rw [if_pos e, if_pos (by omega)]
      · rw [if_neg e, if_neg (by omega)]) (by rw [if_neg (by omega)])
    have xb := s_back hk R.f1 R.f40 R.f2 R.f3 (by omega) dk ((R.sl _ (Nat.mod_lt _ (by omega))).trans a1)
    obtain ⟨N', g'⟩ := m_hand (hd' := k) (un' := un + 1) (f'.mr N) (by omega)
    have kX' : rK (uP (uI (uI h (X + 107) 2 (nI k)) (X + 107) 3 (nI (un + 1))) (X + 107 + 1) ((F + k) % 40) (some d)) X = (1, 8) := kX
    have f2' := R'.f2
    have pk' := R'.xk.2.1
    have kh' := R'.xk.2.2.1
    have c1 : ¬ k + 1 = 0 := by omega
    generalize hh : uP (uP (uI (uI h (X + 107) 2 (nI k)) (X + 107) 3 (nI (un + 1))) (X + 107 + 1) ((F + k) % 40) (some d)) X 0 (some a) = h1 at R' f' N' g' f2' pk' kh'
    have kX1 := R'.xk.1
    refine ev_two (nI k) R' f' N' g' (fun Q => ?_) (fun Q => ?_)
    · simp (disch := omega) only [k101_0, k101_1, k101_4, k101_7, k101_10, k101_11, k101_12, k101_13, k101_14, k101_17, k101_18, k101_21, k101_24, k101_27, k101_28, k101_31, k101_34, if_true, if_false, ite_true, ite_false, not_true_eq_false, not_false_eq_true, true_or, or_true, false_or, or_false, and_self, ok_n0, ok_ni, ok_nr, ok_nl, va_rf_some, va_rf_none, true_and, and_true, List.length_nil, List.length_cons, Option.toList_some, Option.toList_none, List.cons_append, List.nil_append, rK_uA, rK_uI, rK_uJ, rK_uP, rP_uA, rP_uI, rP_uJ, rJ_uA, rJ_uI, rJ_uP, rI_uJ, rI_uP, rz_uA, rz_uI, rz_uJ, rz_uP, rs_uA, rs_uI, rs_uJ, rs_uP, Nat.reduceAdd, Nat.reduceMul, Nat.reduceSub, Nat.reduceLeDiff, Nat.reduceLT, Nat.reduceEqDiff, Nat.add_zero, Nat.zero_add, Nat.zero_le, kX, pk, hk.1, R.f2, R.pd, dk, xb, hh, f2', pk', kh', kX1, ar_eq, c1]
    · have m1 := (f'.mr N).m1
      simp (disch := omega) only [k156_0, k156_1, k156_4, k156_7, k156_8, k156_9, k156_10, k156_10i, k156_11, k156_14, k156_15, k156_16, k156_19, k156_20, k156_23, k156_24, k156_27, k156_28, k156_31, k156_32, k156_35, if_true, if_false, ite_true, ite_false, not_true_eq_false, not_false_eq_true, true_or, or_true, false_or, or_false, and_self, ok_n0, ok_ni, ok_nr, ok_nl, va_rf_some, va_rf_none, true_and, and_true, List.length_nil, List.length_cons, Option.toList_some, Option.toList_none, List.cons_append, List.nil_append, rK_uA, rK_uI, rK_uJ, rK_uP, rP_uA, rP_uI, rP_uJ, rJ_uA, rJ_uI, rJ_uP, rI_uJ, rI_uP, rz_uA, rz_uI, rz_uJ, rz_uP, rs_uA, rs_uI, rs_uJ, rs_uP, Nat.reduceAdd, Nat.reduceMul, Nat.reduceSub, Nat.reduceLeDiff, Nat.reduceLT, Nat.reduceEqDiff, Nat.add_zero, Nat.zero_add, Nat.zero_le, (f'.mr N).k.1, m1, ar_eq, ar_sub, ar_mul, c1, rI_uI, upd_at, Nat.add_sub_cancel]
theorem e_redo (R : XR h X hd un V wt W d B F Sl) (N : MR h (X + 115) hd un V wt W) : EV X h 102 [some (.ref X)] 157 [some (.ref (X + 115))] := by
  have hu := R.hu
  have kX := R.xk.1
  have hk := R.hk
  have pk := R.xk.2.1
  have dk : rK h d = (1, 1) := by
    obtain ⟨n, c, p, lo, r, rl, C, H, P, s, q, t⟩ := R.gd
    exact t.k.1
  cases un with
  | zero =>
    refine ev_no (-1) R N (fun Q => ?_) (fun Q => ?_)
    · simp only [k102_0, k102_1, k102_4, k102_7, k102_10, k102_11, k102_12, k102_13, k102_14, k102_17, k102_18, k102_21, k102_24, k102_27, k102_28, k102_31, k102_34, if_true, if_false, ite_true, ite_false, not_true_eq_false, not_false_eq_true, true_or, or_true, false_or, or_false, and_self, ok_n0, ok_ni, ok_nr, ok_nl, va_rf_some, va_rf_none, true_and, and_true, List.length_nil, List.length_cons, Option.toList_some, Option.toList_none, List.cons_append, List.nil_append, rK_uA, rK_uI, rK_uJ, rK_uP, rP_uA, rP_uI, rP_uJ, rJ_uA, rJ_uI, rJ_uP, rI_uJ, rI_uP, rz_uA, rz_uI, rz_uJ, rz_uP, rs_uA, rs_uI, rs_uJ, rs_uP, Nat.reduceAdd, Nat.reduceMul, Nat.reduceSub, Nat.reduceLeDiff, Nat.reduceLT, Nat.reduceEqDiff, Nat.add_zero, Nat.zero_add, Nat.zero_le, kX, pk, hk.1, R.f3]
    · simp only [k157_0, k157_1, k157_4, k157_5, k157_8, k157_11, k157_12, k157_13, k157_14, k157_14i, k157_15, k157_18, k157_19, k157_20, k157_23, k157_24, k157_27, k157_28, k157_31, k157_32, k157_35, k157_36, k157_39, if_true, if_false, ite_true, ite_false, not_true_eq_false, not_false_eq_true, true_or, or_true, false_or, or_false, and_self, ok_n0, ok_ni, ok_nr, ok_nl, va_rf_some, va_rf_none, true_and, and_true, List.length_nil, List.length_cons, Option.toList_some, Option.toList_none, List.cons_append, List.nil_append, rK_uA, rK_uI, rK_uJ, rK_uP, rP_uA, rP_uI, rP_uJ, rJ_uA, rJ_uI, rJ_uP, rI_uJ, rI_uP, rz_uA, rz_uI, rz_uJ, rz_uP, rs_uA, rs_uI, rs_uJ, rs_uP, Nat.reduceAdd, Nat.reduceMul, Nat.reduceSub, Nat.reduceLeDiff, Nat.reduceLT, Nat.reduceEqDiff, Nat.add_zero, Nat.zero_add, Nat.zero_le, N.k.1, N.m1, N.m2]
  | succ u =>
    obtain ⟨a, a1, a2⟩ := R.gs hd (by omega)
    rw [if_neg (by omega)] at a2
    obtain ⟨R', f'⟩ := R.swp (k0 := hd) (hd' := hd + 1) (un' := u) (by omega) a1 (by omega) a2 (fun j hj hne => by
      by_cases e : j < hd
      · rw [if_pos e, if_pos (by omega)]
      · rw [if_neg e, if_neg (by omega)]) (by rw [if_pos (by omega)])
    have xb := s_again hk R.f1 R.f40 R.f2 R.f3 (by omega) dk ((R.sl _ (Nat.mod_lt _ (by omega))).trans a1)
    obtain ⟨N', g'⟩ := m_hand (hd' := hd + 1) (un' := u) (f'.mr N) (by omega)
    have f2' := R'.f2
    have pk' := R'.xk.2.1
    have kh' := R'.xk.2.2.1
    have c1 : ¬ u + 1 = 0 := by omega
    generalize hh : uP (uP (uI (uI h (X + 107) 2 (nI (hd + 1))) (X + 107) 3 (nI u)) (X + 107 + 1) ((F + hd) % 40) (some d)) X 0 (some a) = h1 at R' f' N' g' f2' pk' kh'
    have kX1 := R'.xk.1
    refine ev_two (nI (hd + 1)) R' f' N' g' (fun Q => ?_) (fun Q => ?_)
    · simp (disch := omega) only [k102_0, k102_1, k102_4, k102_7, k102_10, k102_11, k102_12, k102_13, k102_14, k102_17, k102_18, k102_21, k102_24, k102_27, k102_28, k102_31, k102_34, if_true, if_false, ite_true, ite_false, not_true_eq_false, not_false_eq_true, true_or, or_true, false_or, or_false, and_self, ok_n0, ok_ni, ok_nr, ok_nl, va_rf_some, va_rf_none, true_and, and_true, List.length_nil, List.length_cons, Option.toList_some, Option.toList_none, List.cons_append, List.nil_append, rK_uA, rK_uI, rK_uJ, rK_uP, rP_uA, rP_uI, rP_uJ, rJ_uA, rJ_uI, rJ_uP, rI_uJ, rI_uP, rz_uA, rz_uI, rz_uJ, rz_uP, rs_uA, rs_uI, rs_uJ, rs_uP, Nat.reduceAdd, Nat.reduceMul, Nat.reduceSub, Nat.reduceLeDiff, Nat.reduceLT, Nat.reduceEqDiff, Nat.add_zero, Nat.zero_add, Nat.zero_le, kX, pk, hk.1, R.f3, R.pd, dk, xb, hh, f2', pk', kh', kX1, ar_eq, c1]
    · have m1 := (f'.mr N).m1
      have m2 := (f'.mr N).m2
      have c2 : ¬ hd = hd + (u + 1) := by omega
      simp (disch := omega) only [k157_0, k157_1, k157_4, k157_5, k157_8, k157_11, k157_12, k157_13, k157_14, k157_14i, k157_15, k157_18, k157_19, k157_20, k157_23, k157_24, k157_27, k157_28, k157_31, k157_32, k157_35, k157_36, k157_39, if_true, if_false, ite_true, ite_false, not_true_eq_false, not_false_eq_true, true_or, or_true, false_or, or_false, and_self, ok_n0, ok_ni, ok_nr, ok_nl, va_rf_some, va_rf_none, true_and, and_true, List.length_nil, List.length_cons, Option.toList_some, Option.toList_none, List.cons_append, List.nil_append, rK_uA, rK_uI, rK_uJ, rK_uP, rP_uA, rP_uI, rP_uJ, rJ_uA, rJ_uI, rJ_uP, rI_uJ, rI_uP, rz_uA, rz_uI, rz_uJ, rz_uP, rs_uA, rs_uI, rs_uJ, rs_uP, Nat.reduceAdd, Nat.reduceMul, Nat.reduceSub, Nat.reduceLeDiff, Nat.reduceLT, Nat.reduceEqDiff, Nat.add_zero, Nat.zero_add, Nat.zero_le, (f'.mr N).k.1, m1, m2, ar_eq, ar_add, ar_mul, c2, rI_uI, upd_at]
end EVS5
