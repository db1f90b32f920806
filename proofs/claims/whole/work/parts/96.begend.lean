/-! BEGIN AND END, both sides -/
def eHd (b : Bool) (hd : Nat) : Nat := if b = true then hd else kk hd + 1
def eUn (b : Bool) (un : Nat) : Nat := if b = true then un else 0
def eV (b : Bool) (hd : Nat) (V : Nat → Nat → Int32) (v' : Nat → Int32) : Nat → Nat → Int32 := if b = true then V else fun j => if j ≤ kk hd then V (j + shf hd) else v'
def bV (F : Nat → Int32) (hd : Nat) : Nat → Int32 := fun e => va_cpy F F (980 * hd) 40180 980 (40180 + e)
def MF (M : Nat) (h : pm_H) (h' : pm_H) : Prop := (rK h' = rK h) ∧ (rP h' = rP h) ∧ (rz h' = rz h) ∧ (rs h' = rs h) ∧ (∀ q, (q < M ∨ M + 16 ≤ q) → rI h' q = rI h q ∧ rJ h' q = rJ h q)
theorem MF.fk {M : Nat} {h : pm_H} {h' : pm_H} (x_ : MF M h h') : rK h' = rK h := x_.1
theorem MF.fp {M : Nat} {h : pm_H} {h' : pm_H} (x_ : MF M h h') : rP h' = rP h := x_.2.1
theorem MF.fz {M : Nat} {h : pm_H} {h' : pm_H} (x_ : MF M h h') : rz h' = rz h := x_.2.2.1
theorem MF.fs {M : Nat} {h : pm_H} {h' : pm_H} (x_ : MF M h h') : rs h' = rs h := x_.2.2.2.1
theorem MF.c {M : Nat} {h : pm_H} {h' : pm_H} (x_ : MF M h h') : ∀ q, (q < M ∨ M + 16 ≤ q) → rI h' q = rI h q ∧ rJ h' q = rJ h q := x_.2.2.2.2
theorem MF.rf (M : Nat) (h : pm_H) : MF M h h := ⟨rfl, rfl, rfl, rfl, fun _ _ => ⟨rfl, rfl⟩⟩
theorem MF.tr {M : Nat} {a b c : pm_H} (x : MF M a b) (y : MF M b c) : MF M a c := ⟨y.fk.trans x.fk, y.fp.trans x.fp, y.fz.trans x.fz, y.fs.trans x.fs, fun q hq => ⟨(y.c q hq).1.trans (x.c q hq).1, (y.c q hq).2.trans (x.c q hq).2⟩⟩
theorem MF.uA {M : Nat} (h : pm_H) {a : Nat} (f : Nat → Int32) (h1 : M ≤ a) (h2 : a < M + 16) : MF M h (uA h a f) := ⟨rfl, rfl, rfl, rfl, fun q hq => ⟨by rw [rI_uA, if_neg (by omega)], rfl⟩⟩
theorem MF.uI {M : Nat} (h : pm_H) {a : Nat} (k : Nat) (x : Int32) (h1 : M ≤ a) (h2 : a < M + 16) : MF M h (uI h a k x) := MF.uA h _ h1 h2
theorem MF.xc {X : Nat} {h h' : pm_H} (f : MF (X + 115) h h') : XC X h h' := ⟨fun q _ h2 => ⟨by rw [f.fk], (f.c q (by omega)).1, (f.c q (by omega)).2, by rw [f.fp]⟩, by rw [f.fk], f.fz⟩
section BEGEND
variable {h h1 h2 : pm_H} {X M hd un wt d B F : Nat} {V : Nat → Nat → Int32} {W : Nat → Int32} {Sl : Nat → Option Nat}
variable {v v' : Nat → Int32} {n c n' c' : Nat} {p lo r rl C H P p' lo' r' rl' C' H' P' : Nat → Nat}
theorem x_begin (R : XR h X hd un V wt W d B F Sl) (s : SI v n c p lo r rl) (q : RI v C H P) (t : DV h d v n C H) : ∃ h1, (∀ Q, pGo 112 0 [some (.ref X)] [] h Q = Q (none, h1)) ∧ DV h1 B v n C H ∧ DV h1 d v n C H ∧ FRD B (B + 53) h h1 := by
  have dj := R.od.dj R.ob R.db
  obtain ⟨h1, x, t1, f⟩ := fill_all t R.kb s q (by omega)
  refine ⟨h1, fun Q => ?_, t1, t.cg f.fk f.fp (fun z a b => f.fi z (by omega)) (f.fj _ (by omega)) s.n4, f⟩
  simp only [k112_0, k112_1, k112_4, k112_5, k112_8, k112_11, x, if_true, if_false, ite_true, ite_false, not_true_eq_false, not_false_eq_true, true_or, or_true, false_or, or_false, and_self, ok_n0, ok_ni, ok_nr, ok_nl, va_rf_some, va_rf_none, true_and, and_true, List.length_nil, List.length_cons, Option.toList_some, Option.toList_none, List.cons_append, List.nil_append, rK_uA, rK_uI, rK_uJ, rK_uP, rP_uA, rP_uI, rP_uJ, rJ_uA, rJ_uI, rJ_uP, rI_uJ, rI_uP, rz_uA, rz_uI, rz_uJ, rz_uP, rs_uA, rs_uI, rs_uJ, rs_uP, Nat.reduceAdd, Nat.reduceMul, Nat.reduceSub, Nat.reduceLeDiff, Nat.reduceLT, Nat.reduceEqDiff, Nat.add_zero, Nat.zero_add, Nat.zero_le, R.xk.1, R.pd, R.pb, R.kb.1]
theorem x_end (R : XR h X hd un V wt W d B F Sl) (f1 : FRD B (B + 53) h h1) (f2 : FRD d (d + 53) h1 h2) (hv : ∀ e, e < 980 → v e = V hd e) (s : SI v n c p lo r rl) (q : RI v C H P) (tB : DV h1 B v n C H) (s' : SI v' n' c' p' lo' r' rl') (q' : RI v' C' H' P') (t' : DV h2 d v' n' C' H') : ∃ h3 B' F' Sl', (∀ Q, pGo 113 0 [some (.ref X)] [] h2 Q = Q (some (.int (nb (!(leq v' v 980 0)))), h3)) ∧ XR h3 X (eHd (leq v' v 980 0) hd) (eUn (leq v' v 980 0) un) (eV (leq v' v 980 0) hd V v') wt W d B' F' Sl' ∧ XF X h h3 := by
  have dj := R.od.dj R.ob R.db
  have bd := R.od.lo
  have bB := R.ob.lo
  have hu := R.hu
  have tB2 := tB.cg f2.fk f2.fp (fun z a b => f2.fi z (by omega)) (f2.fj _ (by omega)) s.n4
  have eK : rK h2 = rK h := f2.fk.trans f1.fk
  have eP : rP h2 = rP h := f2.fp.trans f1.fp
  have ez : rz h2 = rz h := f2.fz.trans f1.fz
  have es : rs h2 = rs h := f2.fs.trans f1.fs
  have cc : ∀ z, (z < d ∨ d + 53 ≤ z) → (z < B ∨ B + 53 ≤ z) → SQ h h2 z := fun z a b => ⟨by rw [eK], (f2.fi z a).trans (f1.fi z b), (f2.fj z a).trans (f1.fj z b), by rw [eP]⟩
  have R2 := R.mid (v' := v') eK eP ez cc ⟨n', c', p', lo', r', rl', C', H', P', s', q', t'⟩
  have xs := same_all t' tB2 s' s q' q
  have kX : rK h2 X = (1, 8) := by rw [eK]; exact R.xk.1
  have pd : rP h2 X 0 = some d := by rw [eP]; exact R.pd
  have pb : rP h2 X 1 = some B := by rw [eP]; exact R.pb
  cases hb : leq v' v 980 0 with
  | true =>
    rw [hb] at xs
    refine ⟨h2, B, F, Sl, fun Q => ?_, ?_, ⟨fun z hz => cc z (by omega) (by omega), by omega, by omega⟩⟩
    · simp only [k113_0, k113_1, k113_4, k113_5, k113_8, k113_11, k113_14, k113_15, k113_16, k113_17, k113_18, k113_21, k113_22, k113_25, k113_28, k113_31, k113_32, xs, if_true, if_false, ite_true, ite_false, not_true_eq_false, not_false_eq_true, true_or, or_true, false_or, or_false, and_self, ok_n0, ok_ni, ok_nr, ok_nl, va_rf_some, va_rf_none, true_and, and_true, List.length_nil, List.length_cons, Option.toList_some, Option.toList_none, List.cons_append, List.nil_append, rK_uA, rK_uI, rK_uJ, rK_uP, rP_uA, rP_uI, rP_uJ, rJ_uA, rJ_uI, rJ_uP, rI_uJ, rI_uP, rz_uA, rz_uI, rz_uJ, rz_uP, rs_uA, rs_uI, rs_uJ, rs_uP, Nat.reduceAdd, Nat.reduceMul, Nat.reduceSub, Nat.reduceLeDiff, Nat.reduceLT, Nat.reduceEqDiff, Nat.add_zero, Nat.zero_add, Nat.zero_le, kX, pd, pb, t'.k.1, nb_t, n1_0, Bool.not_true, nb_f]
    · simp only [eHd, eUn, eV, if_true]
      have := lget_all.mp hb
      refine R2.cgV (fun j x hj hx => ?_)
      by_cases e : j = hd
      · subst e
        show V j x = (if j = j then v' else V j) x
        rw [if_pos rfl, this x hx, hv x hx]
      · show V j x = (if j = hd then v' else V j) x
        rw [if_neg e]
  | false =>
    rw [hb] at xs
    obtain ⟨h3, x, F', Sl', ek, R3, f3, k3⟩ := x_keep R2 ⟨n, c, p, lo, r, rl, C, H, P, s, q, tB2⟩
    have k3' : rK h3 X = (1, 8) := by rw [k3]; exact kX
    refine ⟨uP h3 X 1 (some x), x, F', Sl', fun Q => ?_, ?_, ⟨fun z hz => ((cc z (by omega) (by omega)).tr (f3.c z hz)).tr (SQ.uP _ _ _ (by omega)), ?_, ?_⟩⟩
    · have hk : rP h2 X 2 = some (X + 107) := by rw [eP]; exact R.xk.2.1
      have hk2 : rK h2 (X + 107) = (1, 3) := by rw [eK]; exact R.xk.2.2.1
      simp only [k113_0, k113_1, k113_4, k113_5, k113_8, k113_11, k113_14, k113_15, k113_16, k113_17, k113_18, k113_21, k113_22, k113_25, k113_28, k113_31, k113_32, xs, ek, if_true, if_false, ite_true, ite_false, not_true_eq_false, not_false_eq_true, true_or, or_true, false_or, or_false, and_self, ok_n0, ok_ni, ok_nr, ok_nl, va_rf_some, va_rf_none, true_and, and_true, List.length_nil, List.length_cons, Option.toList_some, Option.toList_none, List.cons_append, List.nil_append, rK_uA, rK_uI, rK_uJ, rK_uP, rP_uA, rP_uI, rP_uJ, rJ_uA, rJ_uI, rJ_uP, rI_uJ, rI_uP, rz_uA, rz_uI, rz_uJ, rz_uP, rs_uA, rs_uI, rs_uJ, rs_uP, Nat.reduceAdd, Nat.reduceMul, Nat.reduceSub, Nat.reduceLeDiff, Nat.reduceLT, Nat.reduceEqDiff, Nat.add_zero, Nat.zero_add, Nat.zero_le, kX, pd, pb, hk, hk2, k3', t'.k.1, nb_f, Bool.not_false, nb_t]
    · simp only [eHd, eUn, eV, Bool.false_eq_true, if_false]
      obtain ⟨e1, e2, e3⟩ := kk_sh (show hd ≤ 40 by omega)
      refine R3.cgV (fun j y hj hy => ?_)
      show (if j ≤ kk hd then V (j + shf hd) else v') y = (if j < kk hd then (if j + shf hd = hd then v' else V (j + shf hd)) else if j = kk hd then v else (if hd = hd then v' else V hd)) y
      by_cases c1 : j < kk hd
      · rw [if_pos (by omega), if_pos c1, if_neg (by omega)]
      · by_cases c2 : j = kk hd
        · rw [if_pos (by omega), if_neg c1, if_pos c2, hv y hy, c2, e1]
        · rw [if_neg (by omega), if_neg c1, if_neg c2, if_pos rfl]
    · rw [rz_uP]; have := f3.z; omega
    · rw [rs_uP]; have := f3.s; omega
theorem bV_eq (R : MR h M hd un V wt W) {e : Nat} (he : e < 980) : bV (rI h (M + 1)) hd e = V hd e := by
  simp only [bV, va_cpy]
  rw [if_pos (by omega), show 980 * hd + (40180 + e - 40180) = 980 * hd + e by omega]
  exact R.vv hd e (by omega) he
def mB (h : pm_H) (M hd : Nat) : pm_H := uI (uA h (M + 1) (va_cpy (rI h (M + 1)) (rI h (M + 1)) (980 * hd) 40180 980)) M 3 (nI 40180)
theorem m_begin (R : MR h M hd un V wt W) (Q : Option Value × pm_H → Prop) : pGo 124 0 [some (.ref M)] [] h Q = Q (none, mB h M hd) := s_begins R.k R.m1 (by have := R.h40; omega) Q
theorem mB_1 (h : pm_H) (M hd : Nat) : rI (mB h M hd) (M + 1) = va_cpy (rI h (M + 1)) (rI h (M + 1)) (980 * hd) 40180 980 := by
  rw [mB, rI_uI, if_neg (by omega), rI_uA, if_pos rfl]
theorem m_bmv (R : MR h M hd un V wt W) : MV (mB h M hd) M 40180 (bV (rI h (M + 1)) hd) := by
  refine ⟨R.k, ?_, by omega, fun e => ?_⟩
  · rw [mB, rI_uI, if_pos rfl, pk_us]
  · rw [mB_1]; rfl
theorem mB_f (h : pm_H) (M hd : Nat) : MF M h (mB h M hd) := (MF.uA h _ (by omega) (by omega)).tr (MF.uI _ _ _ (by omega) (by omega))
theorem mB_m (h : pm_H) (M hd : Nat) {k : Nat} (hk : ¬ k = 3) : rI (mB h M hd) M k = rI h M k := by
  rw [mB, rI_uI, if_pos rfl, upd_at, if_neg hk, rI_uA, if_neg (by omega)]
theorem mB_2 (h : pm_H) (M hd : Nat) : rI (mB h M hd) (M + 2) = rI h (M + 2) := by
  rw [mB, rI_uI, if_neg (by omega), rI_uA, if_neg (by omega)]
theorem m_end {h5 : pm_H} {wt' : Nat} {W' : Nat → Int32} (R : MR h M hd un V wt W) (hv : ∀ e, e < 980 → v e = V hd e) (f : MF M h h5) (a1 : rI h5 M 1 = rI h M 1) (a2 : rI h5 M 2 = rI h M 2) (a5 : rI h5 M 5 = nI wt') (w4 : wt' ≤ 4) (wb : ∀ k, k < 4 * wt' → rI h5 (M + 2) k = W' k) (lo : ∀ x, x < 40180 → rI h5 (M + 1) x = rI h (M + 1) x) (hi : ∀ e, e < 980 → rI h5 (M + 1) (40180 + e) = v' e) : ∃ h6, (∀ Q, pGo 125 0 [some (.ref M), none, none] [] h5 Q = Q (some (.int (nb (!(leq v' v 980 0)))), h6)) ∧ MR h6 M (eHd (leq v' v 980 0) hd) (eUn (leq v' v 980 0) un) (eV (leq v' v 980 0) hd V v') wt' W' ∧ MF M h h6 := by
  have h40 := R.h40
  have K5 : MK h5 M := R.k.cgl (fun q _ _ => ⟨by rw [f.fk], by rw [f.fp]⟩)
  have K5' : MK2 h5 M := R.k2.cgl (fun q _ _ => ⟨by rw [f.fk], by rw [f.fp]⟩)
  have m1 : rI h5 M 1 = nI hd := a1.trans R.m1
  have ov : ∀ j e, j ≤ hd + un → e < 980 → j ≤ 40 → rI h5 (M + 1) (980 * j + e) = V j e := fun j e h1 h2 h3 => by
    rw [lo _ (by omega)]; exact R.vv j e h1 h2
  have key : leq (fun e => rI h5 (M + 1) (980 * hd + e)) (fun e => rI h5 (M + 1) (40180 + e)) 980 0 = leq v' v 980 0 := by
    rw [Bool.eq_iff_iff, lget_all, lget_all]
    constructor
    · intro z k hk
      have := z k hk
      rw [ov hd k (by omega) hk (by omega), hi k hk] at this
      rw [hv k hk]; exact this.symm
    · intro z k hk
      rw [ov hd k (by omega) hk (by omega), hi k hk, z k hk, hv k hk]
  cases hb : leq v' v 980 0 with
  | true =>
    rw [hb] at key
    refine ⟨uI h5 M 3 (nI (980 * hd)), fun Q => ?_, ?_, f.tr (MF.uI _ _ _ (by omega) (by omega))⟩
    · rw [s_ends_same K5 m1 (by omega) key]; rfl
    · simp only [eHd, eUn, eV, if_true]
      refine ⟨K5, K5', ?_, ?_, ?_, h40, fun j e h1 h2 => ?_, w4, ?_, fun k hk => ?_⟩
      · rw [rI_uI, if_pos rfl, upd_at, if_neg (by omega)]; exact m1
      · rw [rI_uI, if_pos rfl, upd_at, if_neg (by omega), a2]; exact R.m2
      · rw [rI_uI, if_pos rfl, pk_us]
      · rw [rI_uI, if_neg (by omega)]; exact ov j e h1 h2 (by omega)
      · rw [rI_uI, if_pos rfl, upd_at, if_neg (by omega)]; exact a5
      · rw [rI_uI, if_neg (by omega)]; exact wb k hk
  | false =>
    rw [hb] at key
    by_cases c40 : hd = 40
    · subst c40
      have un0 : un = 0 := by omega
      refine ⟨_, fun Q => by rw [s_ends_full K5 m1 key]; rfl, ?_, f.tr (((((MF.uI _ _ _ (by omega) (by omega)).tr (MF.uI _ _ _ (by omega) (by omega))).tr (MF.uI _ _ _ (by omega) (by omega))).tr (MF.uA _ _ (by omega) (by omega))))⟩
      simp only [eHd, eUn, eV, Bool.false_eq_true, if_false, kk, shf, if_true]
      refine ⟨K5, K5', ?_, ?_, ?_, by omega, fun j e h1 h2 => ?_, w4, ?_, fun k hk => ?_⟩
      · rw [rI_uA, if_neg (by omega), rI_uI, if_pos rfl, upd_at, if_neg (by omega), rI_uI, if_pos rfl, upd_at, if_neg (by omega), rI_uI, if_pos rfl, upd_at, if_neg (by omega)]; exact m1
      · rw [rI_uA, if_neg (by omega), rI_uI, if_pos rfl, upd_at, if_neg (by omega), rI_uI, if_pos rfl, upd_at, if_pos rfl]
      · rw [rI_uA, if_neg (by omega), rI_uI, if_pos rfl, upd_at, if_pos rfl]
      · rw [rI_uA, if_pos rfl]
        simp only [va_cpy]
        by_cases j40 : j ≤ 39
        · rw [if_neg (by omega), if_pos (by omega), if_pos j40, show 980 + (980 * j + e - 0) = 980 * (j + 1) + e by omega]
          exact ov (j + 1) e (by omega) h2 (by omega)
        · have : j = 40 := by omega
          subst this
          rw [if_pos (by omega), if_neg (by omega), if_neg (by omega), show 40180 + (980 * 40 + e - 980 * 40) = 40180 + e by omega]
          exact hi e h2
      · rw [rI_uA, if_neg (by omega), rI_uI, if_pos rfl, upd_at, if_neg (by omega), rI_uI, if_pos rfl, upd_at, if_neg (by omega), rI_uI, if_pos rfl, upd_at, if_neg (by omega)]; exact a5
      · rw [rI_uA, if_neg (by omega), rI_uI, if_neg (by omega), rI_uI, if_neg (by omega), rI_uI, if_neg (by omega)]; exact wb k hk
    · refine ⟨_, fun Q => by rw [s_ends_new K5 m1 (by omega) key]; rfl, ?_, f.tr ((((((MF.uI _ _ _ (by omega) (by omega)).tr (MF.uI _ _ _ (by omega) (by omega))).tr (MF.uI _ _ _ (by omega) (by omega))).tr (MF.uI _ _ _ (by omega) (by omega))).tr (MF.uA _ _ (by omega) (by omega))))⟩
      simp only [eHd, eUn, eV, Bool.false_eq_true, if_false, kk, shf, c40, Nat.add_zero]
      refine ⟨K5, K5', ?_, ?_, ?_, by omega, fun j e h1 h2 => ?_, w4, ?_, fun k hk => ?_⟩
      · rw [rI_uA, if_neg (by omega), rI_uI, if_pos rfl, upd_at, if_neg (by omega), rI_uI, if_pos rfl, upd_at, if_neg (by omega), rI_uI, if_pos rfl, upd_at, if_pos rfl]
      · rw [rI_uA, if_neg (by omega), rI_uI, if_pos rfl, upd_at, if_neg (by omega), rI_uI, if_pos rfl, upd_at, if_pos rfl]
      · rw [rI_uA, if_neg (by omega), rI_uI, if_pos rfl, upd_at, if_pos rfl]
      · rw [rI_uA, if_pos rfl]
        simp only [va_cpy]
        by_cases jh : j ≤ hd
        · rw [if_neg (by omega), if_pos jh]
          exact ov j e (by omega) h2 (by omega)
        · have : j = hd + 1 := by omega
          subst this
          rw [if_pos (by omega), if_neg (by omega), show 40180 + (980 * (hd + 1) + e - 980 * (hd + 1)) = 40180 + e by omega]
          exact hi e h2
      · rw [rI_uA, if_neg (by omega), rI_uI, if_pos rfl, upd_at, if_neg (by omega), rI_uI, if_pos rfl, upd_at, if_neg (by omega), rI_uI, if_pos rfl, upd_at, if_neg (by omega), rI_uI, if_pos rfl, upd_at, if_neg (by omega)]; exact a5
      · rw [rI_uA, if_neg (by omega), rI_uI, if_neg (by omega), rI_uI, if_neg (by omega), rI_uI, if_neg (by omega), rI_uI, if_neg (by omega)]; exact wb k hk
/-- the usual case: the vector is all that the model's side changed -/
theorem m_end1 (R : MR h M hd un V wt W) (hv : ∀ e, e < 980 → v e = V hd e) : ∃ h6, (∀ Q, pGo 125 0 [some (.ref M), none, none] [] (HM (mB h M hd) M (rI (mB h M hd) (M + 1)) 40180 v') Q = Q (some (.int (nb (!(leq v' v 980 0)))), h6)) ∧ MR h6 M (eHd (leq v' v 980 0) hd) (eUn (leq v' v 980 0) un) (eV (leq v' v 980 0) hd V v') wt W ∧ MF M h h6 := by
  have e1 : ∀ k, ¬ k = 3 → rI (HM (mB h M hd) M (rI (mB h M hd) (M + 1)) 40180 v') M k = rI h M k := fun k hk => by rw [rI_HM0, mB_m _ _ _ hk]
  refine m_end (v := v) R hv ((mB_f h M hd).tr (MF.uA _ _ (by omega) (by omega))) (e1 1 (by omega)) (e1 2 (by omega)) ((e1 5 (by omega)).trans R.wi) R.w4 (fun k hk => ?_) (fun x hx => ?_) (fun e he => ?_)
  · rw [rI_HMo _ _ _ _ _ (by omega), mB_2]; exact R.wb k hk
  · rw [HM, rI_uA, if_pos rfl, lft, if_neg (by omega), mB_1]
    simp only [va_cpy]
    rw [if_neg (by omega)]
  · exact rI_HM _ _ _ _ _ e
end BEGEND
