/-! WHAT AN EVENT BEGINS AND ENDS WITH: the desk's side -/
def kk (hd : Nat) : Nat := if hd = 40 then 39 else hd
def shf (hd : Nat) : Nat := if hd = 40 then 1 else 0
theorem kk_sh {hd : Nat} (h : hd ≤ 40) : kk hd + shf hd = hd ∧ kk hd < 40 ∧ shf hd ≤ 1 := by
  simp only [kk, shf]
  split <;> omega
/-- the frame of what the desk's side does -/
def XF (X : Nat) (h : pm_H) (h' : pm_H) : Prop := (∀ q, (q < X ∨ (X + 115 ≤ q ∧ q < X + 131)) → SQ h h' q) ∧ (rz h' ≤ rz h + 53) ∧ (rs h' ≤ rs h + 1000)
theorem XF.c {X : Nat} {h : pm_H} {h' : pm_H} (x_ : XF X h h') : ∀ q, (q < X ∨ (X + 115 ≤ q ∧ q < X + 131)) → SQ h h' q := x_.1
theorem XF.z {X : Nat} {h : pm_H} {h' : pm_H} (x_ : XF X h h') : rz h' ≤ rz h + 53 := x_.2.1
theorem XF.s {X : Nat} {h : pm_H} {h' : pm_H} (x_ : XF X h h') : rs h' ≤ rs h + 1000 := x_.2.2
section KEEP
variable {h h' : pm_H} {X hd un wt d B F : Nat} {V : Nat → Nat → Int32} {W : Nat → Int32} {Sl : Nat → Option Nat}
theorem XR.cgV {V' : Nat → Nat → Int32} (R : XR h X hd un V wt W d B F Sl) (e : ∀ j x, j ≤ hd + un → x < 980 → V' j x = V j x) : XR h X hd un V' wt W d B F Sl := by
  refine ⟨R.xk, R.zz, R.pd, R.pb, R.hu, R.f40, R.f1, R.f2, R.f3, R.sl, R.od, R.ob, R.kb, R.db, R.os, R.inj, R.gd.cgv (fun x hx => e hd x (by omega) hx), fun j hj => ?_, R.w4, R.wi, R.wb, R.wr⟩
  obtain ⟨a, a1, a2⟩ := R.gs j hj
  refine ⟨a, a1, a2.cgv (fun x hx => e _ x ?_ hx)⟩
  split <;> omega
/-- only the desk in use and the other one have changed -/
theorem XR.mid {v' : Nat → Int32} (R : XR h X hd un V wt W d B F Sl) (eK : rK h' = rK h) (eP : rP h' = rP h) (ez : rz h' = rz h) (c : ∀ q, (q < d ∨ d + 53 ≤ q) → (q < B ∨ B + 53 ≤ q) → SQ h h' q) (g : GD h' d v') : XR h' X hd un (fun j => if j = hd then v' else V j) wt W d B F Sl := by
  have bd := R.od.lo
  have bB := R.ob.lo
  have cX : ∀ q, X ≤ q → q < X + 1 ∨ (X + 107 ≤ q ∧ q < X + 131) → SQ h h' q := fun q h1 h2 => c q (by omega) (by omega)
  refine ⟨R.xk.cg eK eP, by rw [ez]; exact R.zz, by rw [eP]; exact R.pd, by rw [eP]; exact R.pb, R.hu, R.f40, by rw [(cX (X + 107) (by omega) (by omega)).2.1]; exact R.f1, by rw [(cX (X + 107) (by omega) (by omega)).2.1]; exact R.f2, by rw [(cX (X + 107) (by omega) (by omega)).2.1]; exact R.f3, fun k hk => by rw [eP]; exact R.sl k hk, by rw [ez]; exact R.od, by rw [ez]; exact R.ob, R.kb.cg eK eP, R.db, fun k a hk ha => ?_, R.inj, ?_, fun j hj => ?_, R.w4, by rw [(cX X (by omega) (by omega)).2.1]; exact R.wi, fun j c hj hc => ?_, R.wr⟩
  · obtain ⟨o1, o2, o3, o4⟩ := R.os k a hk ha
    exact ⟨by rw [ez]; exact o1, o2.cg eK eP, o3, o4⟩
  · show GD h' d (if hd = hd then v' else V hd)
    rw [if_pos rfl]; exact g
  · obtain ⟨a, a1, a2⟩ := R.gs j hj
    obtain ⟨o1, o2, o3, o4⟩ := R.os _ a (Nat.mod_lt _ (by omega)) a1
    have j1 := o1.dj R.od o3
    have j2 := o1.dj R.ob o4
    refine ⟨a, a1, ?_⟩
    show GD h' a (if (if j < hd then j else j + 1) = hd then v' else V (if j < hd then j else j + 1))
    rw [if_neg (show ¬ (if j < hd then j else j + 1) = hd by split <;> omega)]
    exact a2.cgl (fun q h1 h2 => c q (by omega) (by omega))
  · have := R.w4
    rw [(cX (X + 110 + j) (by omega) (by omega)).2.1]; exact R.wb j c hj hc
theorem XR.hk (R : XR h X hd un V wt W d B F Sl) : HK h (X + 107) := ⟨R.xk.2.2.1, R.xk.2.2.2.1, R.xk.2.2.2.2.1⟩
theorem x_keep {u : Nat → Int32} (R : XR h X hd un V wt W d B F Sl) (g : GD h B u) : ∃ h' x F' Sl', (∀ Q, pGo 41 0 [some (.ref (X + 107)), some (.ref B), none] [] h Q = Q (some (.ref x), h')) ∧ XR (uP h' X 1 (some x)) X (kk hd + 1) 0 (fun j => if j < kk hd then V (j + shf hd) else if j = kk hd then u else V hd) wt W d x F' Sl' ∧ XF X h h' ∧ rK h' X = rK h X := by
  have hu := R.hu
  have f40 := R.f40
  have bd := R.od.lo
  have bB := R.ob.lo
  have z131 := R.z131
  obtain ⟨e1, e2, e3⟩ := kk_sh (show hd ≤ 40 by omega)
  obtain ⟨f, ff1, ff2, ff3, ea⟩ := s_keep_a (un := un) (g := B) R.hk R.f1 R.f40 R.f2 (show hd ≤ 40 by omega)
  have ff2' : f 2 = nI (kk hd + 1) := by
    rw [ff2]; congr 1; simp only [kk]; split <;> omega
  generalize hF : (if hd = 40 then (F + 1) % 40 else F) = F1 at ff1
  have hF1 : F1 < 40 := by rw [← hF]; split <;> omega
  have eF : ∀ j, (F1 + j) % 40 = (F + (j + shf hd)) % 40 := fun j => by
    rw [← hF]; simp only [shf]; split <;> omega
  have hm : (F1 + kk hd) % 40 < 40 := Nat.mod_lt _ (by omega)
  have jne : ∀ j, j < kk hd → ¬ (F1 + j) % 40 = (F1 + kk hd) % 40 := fun j hj => by omega
  have HKa : HK (uA h (X + 107) f) (X + 107) := R.hk
  have hf1 : rI (uA h (X + 107) f) (X + 107) 1 = nI F1 := by rw [rI_uA, if_pos rfl]; exact ff1
  have hf2 : rI (uA h (X + 107) f) (X + 107) 2 = nI (kk hd + 1) := by rw [rI_uA, if_pos rfl]; exact ff2'
  have hsl := R.sl _ hm
  have gsl : ∀ j, j < kk hd → ∃ a, Sl ((F1 + j) % 40) = some a ∧ GD h a (V (j + shf hd)) := fun j hj => by
    obtain ⟨a, a1, a2⟩ := R.gs (j + shf hd) (by omega)
    rw [if_pos (by omega)] at a2
    exact ⟨a, by rw [eF]; exact a1, a2⟩
  cases hS : Sl ((F1 + kk hd) % 40) with
  | some x =>
    rw [hS] at hsl
    obtain ⟨o1, o2, o3, o4⟩ := R.os _ x hm hS
    have ey := s_keep_y HKa hf1 hF1 hf2 e2 R.kb.1 hsl o4
    generalize hh : uP (uA h (X + 107) f) (X + 107 + 1) ((F1 + kk hd) % 40) (some B) = h1 at ey
    have eK : rK h1 = rK h := by rw [← hh, rK_uP, rK_uA]
    have ez : rz h1 = rz h := by rw [← hh, rz_uP, rz_uA]
    have es : rs h1 = rs h := by rw [← hh, rs_uP, rs_uA]
    have c : ∀ q, ¬ q = X + 107 → ¬ q = X + 108 → SQ h h1 q := fun q h1 h2 => by rw [← hh]; exact (SQ.uA _ _ h1).tr (SQ.uP _ _ _ h2)
    have cP : ∀ q, ¬ q = X + 108 → rP h1 q = rP h q := fun q h1 => by rw [← hh, rP_uPo _ _ _ h1, rP_uA]
    have cS : ∀ k, rP h1 (X + 108) k = if k = (F1 + kk hd) % 40 then some B else rP h (X + 108) k := fun k => by rw [← hh, rP_uPs, rP_uA]
    have cI : rI h1 (X + 107) = f := by rw [← hh, rI_uP, rI_uA, if_pos rfl]
    have c2 : ∀ q, ¬ q = X → ¬ q = X + 107 → ¬ q = X + 108 → SQ h (uP h1 X 1 (some x)) q := fun q h0 h1 h2 => (c q h1 h2).tr (SQ.uP _ _ _ h0)
    have bl : ∀ {z a}, DA X z a → ∀ q, a ≤ q → q < a + 53 → SQ h (uP h1 X 1 (some x)) q := fun x q h1 h2 => c2 q (by have := x.lo; omega) (by have := x.lo; omega) (by have := x.lo; omega)
    have dkb : ∀ {z a}, DA X z a → DK h a → DK (uP h1 X 1 (some x)) a := fun x k => k.cgl (fun q h1 h2 => ⟨(bl x q h1 h2).1, (bl x q h1 h2).2.2.2⟩)
    obtain ⟨k0, k1, k2, k3, k4, k5, k6, k7, k8, k9, k10⟩ := R.xk
    refine ⟨h1, x, F1, fun k => if k = (F1 + kk hd) % 40 then some B else Sl k, fun Q => by rw [ea, ey], ⟨⟨?_, ?_, ?_, ?_, ?_, ?_, ?_, fun j hj => ?_, fun j hj => ?_, ?_, ?_⟩, by rw [rz_uP, ez]; exact R.zz, by rw [rP_uPs, if_neg (by omega), cP _ (by omega)]; exact R.pd, by rw [rP_uPs, if_pos rfl], by omega, hF1, by rw [rI_uP, cI]; exact ff1, by rw [rI_uP, cI]; exact ff2', by rw [rI_uP, cI]; exact ff3, fun k hk => ?_, by rw [rz_uP, ez]; exact R.od, by rw [rz_uP, ez]; exact o1, dkb o1 o2, fun z => o3 z.symm, fun k a hk ha => ?_, fun k l a hk hl ha hb => ?_, ?_, fun j hj => ?_, R.w4, by rw [rI_uP, (c X (by omega) (by omega)).2.1]; exact R.wi, fun j c3 hj hc => ?_, R.wr⟩, ⟨fun q hq => c q (by omega) (by omega), by omega, by omega⟩, by rw [eK]⟩
    · rw [rK_uP, eK]; exact k0
    · rw [rP_uPs, if_neg (by omega), cP _ (by omega)]; exact k1
    · rw [rK_uP, eK]; exact k2
    · rw [rP_uPo _ _ _ (by omega), cP _ (by omega)]; exact k3
    · rw [rK_uP, eK]; exact k4
    · rw [rP_uPs, if_neg (by omega), cP _ (by omega)]; exact k5
    · rw [rK_uP, eK]; exact k6
    · rw [rP_uPo _ _ _ (by omega), cP _ (by omega)]; exact k7 j hj
    · rw [rK_uP, eK]; exact k8 j hj
    · rw [rP_uPs, if_neg (by omega), cP _ (by omega)]; exact k9
    · rw [rK_uP, eK]; exact k10
    · rw [rP_uPo _ _ _ (by omega), cS]
      show _ = (if k = (F1 + kk hd) % 40 then some B else Sl k)
      by_cases e : k = (F1 + kk hd) % 40
      · rw [if_pos e, if_pos e]
      · rw [if_neg e, if_neg e]; exact R.sl k hk
    · have ha : (if k = (F1 + kk hd) % 40 then some B else Sl k) = some a := ha
      by_cases e : k = (F1 + kk hd) % 40
      · rw [if_pos e] at ha
        cases ha
        exact ⟨by rw [rz_uP, ez]; exact R.ob, dkb R.ob R.kb, fun z => R.db z.symm, fun z => o4 z.symm⟩
      · rw [if_neg e] at ha
        obtain ⟨p1, p2, p3, p4⟩ := R.os k a hk ha
        refine ⟨by rw [rz_uP, ez]; exact p1, dkb p1 p2, p3, fun z => e (R.inj k _ x hk hm (by rw [← z]; exact ha) hS)⟩
    · have ha : (if k = (F1 + kk hd) % 40 then some B else Sl k) = some a := ha
      have hb : (if l = (F1 + kk hd) % 40 then some B else Sl l) = some a := hb
      by_cases e : k = (F1 + kk hd) % 40
      · by_cases e' : l = (F1 + kk hd) % 40
        · omega
        · rw [if_pos e] at ha
          rw [if_neg e'] at hb
          cases ha
          exact absurd rfl (R.os l B hl hb).2.2.2
      · rw [if_neg e] at ha
        by_cases e' : l = (F1 + kk hd) % 40
        · rw [if_pos e'] at hb
          cases hb
          exact absurd rfl (R.os k B hk ha).2.2.2
        · rw [if_neg e'] at hb
          exact R.inj k l a hk hl ha hb
    · simp only [show ¬ kk hd + 1 < kk hd by omega, show ¬ kk hd + 1 = kk hd by omega, if_false]
      exact R.gd.cgl (bl R.od)
    · by_cases e : j = kk hd
      · subst e
        refine ⟨B, by show (if (F1 + kk hd) % 40 = (F1 + kk hd) % 40 then some B else Sl ((F1 + kk hd) % 40)) = some B; rw [if_pos rfl], ?_⟩
        rw [if_pos (by omega)]
        simp only [Nat.lt_irrefl, if_false, if_true]
        exact g.cgl (bl R.ob)
      · obtain ⟨a, a1, a2⟩ := gsl j (by omega)
        refine ⟨a, by show (if (F1 + j) % 40 = (F1 + kk hd) % 40 then some B else Sl ((F1 + j) % 40)) = some a; rw [if_neg (jne j (by omega))]; exact a1, ?_⟩
        rw [if_pos (by omega)]
        simp only [show j < kk hd by omega, if_true]
        exact a2.cgl (bl (R.os _ a (Nat.mod_lt _ (by omega)) a1).1)
    · have := R.w4
      rw [rI_uP, (c (X + 110 + j) (by omega) (by omega)).2.1]; exact R.wb j c3 hj hc
  | none =>
    rw [hS] at hsl
    have ey := s_keep_n HKa hf1 hF1 hf2 e2 R.kb.1 hsl
    generalize hh : uP (uA h (X + 107) f) (X + 107 + 1) ((F1 + kk hd) % 40) (some B) = h1 at ey
    have eK1 : rK h1 = rK h := by rw [← hh, rK_uP, rK_uA]
    have ez1 : rz h1 = rz h := by rw [← hh, rz_uP, rz_uA]
    have es1 : rs h1 = rs h := by rw [← hh, rs_uP, rs_uA]
    have ca : ∀ q, ¬ q = X + 107 → ¬ q = X + 108 → SQ h h1 q := fun q h1 h2 => by rw [← hh]; exact (SQ.uA _ _ h1).tr (SQ.uP _ _ _ h2)
    have cPa : ∀ q, ¬ q = X + 108 → rP h1 q = rP h q := fun q h1 => by rw [← hh, rP_uPo _ _ _ h1, rP_uA]
    have cSa : ∀ k, rP h1 (X + 108) k = if k = (F1 + kk hd) % 40 then some B else rP h (X + 108) k := fun k => by rw [← hh, rP_uPs, rP_uA]
    have cIa : rI h1 (X + 107) = f := by rw [← hh, rI_uP, rI_uA, if_pos rfl]
    obtain ⟨h2, xd, ⟨w1, w2, w3⟩, D2⟩ := n_Desk h1
    rw [ez1] at xd w1 w3 D2
    rw [rz_uA] at ey
    obtain ⟨q0, hq0⟩ := R.zz
    have c : ∀ q, ¬ q = X + 107 → ¬ q = X + 108 → q < rz h → SQ h h2 q := fun q h1 h2 h3 => (ca q h1 h2).tr (w3 q h3)
    have c2 : ∀ q, ¬ q = X → ¬ q = X + 107 → ¬ q = X + 108 → q < rz h → SQ h (uP h2 X 1 (some (rz h))) q := fun q h0 h1 h2 h3 => (c q h1 h2 h3).tr (SQ.uP _ _ _ h0)
    have bl : ∀ {a}, DA X (rz h) a → ∀ q, a ≤ q → q < a + 53 → SQ h (uP h2 X 1 (some (rz h))) q := fun x q h1 h2 => c2 q (by have := x.lo; omega) (by have := x.lo; omega) (by have := x.lo; omega) (by have := x.hi z131; omega)
    have dkb : ∀ {a}, DA X (rz h) a → DK h a → DK (uP h2 X 1 (some (rz h))) a := fun x k => k.cgl (fun q h1 h2 => ⟨(bl x q h1 h2).1, (bl x q h1 h2).2.2.2⟩)
    have mn : ∀ {a}, DA X (rz h) a → DA X (rz (uP h2 X 1 (some (rz h)))) a := fun x => x.mono (by rw [rz_uP, w1]; omega)
    have nz : ∀ {a}, DA X (rz h) a → ¬ a = rz h := fun x z => by have := x.hi z131; omega
    have eK : ∀ q, q < rz h → rK (uP h2 X 1 (some (rz h))) q = rK h q := fun q hq => by rw [rK_uP, (w3 q hq).1, eK1]
    have eP : ∀ q, ¬ q = X → ¬ q = X + 108 → q < rz h → rP (uP h2 X 1 (some (rz h))) q = rP h q := fun q h0 h1 h2 => by rw [rP_uPo _ _ _ h0, (w3 q h2).2.2.2, cPa q h1]
    have eX : ∀ k, ¬ k = 1 → rP (uP h2 X 1 (some (rz h))) X k = rP h X k := fun k hk => by rw [rP_uPs, if_neg hk, (w3 X (by omega)).2.2.2, cPa X (by omega)]
    have cI : rI (uP h2 X 1 (some (rz h))) (X + 107) = f := by rw [rI_uP, (w3 _ (by omega)).2.1]; exact cIa
    obtain ⟨k0, k1, k2, k3, k4, k5, k6, k7, k8, k9, k10⟩ := R.xk
    refine ⟨h2, rz h, F1, fun k => if k = (F1 + kk hd) % 40 then some B else Sl k, fun Q => ?_, ⟨⟨?_, ?_, ?_, ?_, ?_, ?_, ?_, fun j hj => ?_, fun j hj => ?_, ?_, ?_⟩, ⟨q0 + 1, by rw [rz_uP, w1]; omega⟩, by rw [eX _ (by omega)]; exact R.pd, by rw [rP_uPs, if_pos rfl], by omega, hF1, by rw [cI]; exact ff1, by rw [cI]; exact ff2', by rw [cI]; exact ff3, fun k hk => ?_, mn R.od, Or.inr (Or.inr ⟨q0, by omega, by rw [rz_uP, w1]; omega⟩), ?_, fun z => nz R.od z, fun k a hk ha => ?_, fun k l a hk hl ha hb => ?_, ?_, fun j hj => ?_, R.w4, ?_, fun j c3 hj hc => ?_, R.wr⟩, ⟨fun q hq => c q (by omega) (by omega) (by omega), by omega, by omega⟩, ?_⟩
    · rw [ea, ey, xd]
      simp only [k41_71, k41_75, if_true, if_false, ite_true, ite_false, not_true_eq_false, not_false_eq_true, true_or, or_true, false_or, or_false, and_self, ok_n0, ok_ni, ok_nr, ok_nl, va_rf_some, va_rf_none, true_and, and_true, List.length_nil, List.length_cons, Option.toList_some, Option.toList_none, List.cons_append, List.nil_append, rK_uA, rK_uI, rK_uJ, rK_uP, rP_uA, rP_uI, rP_uJ, rJ_uA, rJ_uI, rJ_uP, rI_uJ, rI_uP, rz_uA, rz_uI, rz_uJ, rz_uP, rs_uA, rs_uI, rs_uJ, rs_uP, Nat.reduceAdd, Nat.reduceMul, Nat.reduceSub, Nat.reduceLeDiff, Nat.reduceLT, Nat.reduceEqDiff, Nat.add_zero, Nat.zero_add, Nat.zero_le]
    · rw [eK _ (by omega)]; exact k0
    · rw [eX _ (by omega)]; exact k1
    · rw [eK _ (by omega)]; exact k2
    · rw [eP _ (by omega) (by omega) (by omega)]; exact k3
    · rw [eK _ (by omega)]; exact k4
    · rw [eX _ (by omega)]; exact k5
    · rw [eK _ (by omega)]; exact k6
    · rw [eP _ (by omega) (by omega) (by omega)]; exact k7 j hj
    · rw [eK _ (by omega)]; exact k8 j hj
    · rw [eX _ (by omega)]; exact k9
    · rw [eK _ (by omega)]; exact k10
    · rw [rP_uPo _ _ _ (by omega), (w3 _ (by omega)).2.2.2, cSa]
      show _ = (if k = (F1 + kk hd) % 40 then some B else Sl k)
      by_cases e : k = (F1 + kk hd) % 40
      · rw [if_pos e, if_pos e]
      · rw [if_neg e, if_neg e]; exact R.sl k hk
    · exact D2.k.cgl (fun q h1 h2 => ⟨by rw [rK_uP], rP_uPo _ _ _ (by omega)⟩)
    · have ha : (if k = (F1 + kk hd) % 40 then some B else Sl k) = some a := ha
      by_cases e : k = (F1 + kk hd) % 40
      · rw [if_pos e] at ha
        cases ha
        exact ⟨mn R.ob, dkb R.ob R.kb, fun z => R.db z.symm, nz R.ob⟩
      · rw [if_neg e] at ha
        obtain ⟨p1, p2, p3, p4⟩ := R.os k a hk ha
        exact ⟨mn p1, dkb p1 p2, p3, nz p1⟩
    · have ha : (if k = (F1 + kk hd) % 40 then some B else Sl k) = some a := ha
      have hb : (if l = (F1 + kk hd) % 40 then some B else Sl l) = some a := hb
      by_cases e : k = (F1 + kk hd) % 40
      · by_cases e' : l = (F1 + kk hd) % 40
        · omega
        · rw [if_pos e] at ha
          rw [if_neg e'] at hb
          cases ha
          exact absurd rfl (R.os l B hl hb).2.2.2
      · rw [if_neg e] at ha
        by_cases e' : l = (F1 + kk hd) % 40
        · rw [if_pos e'] at hb
          cases hb
          exact absurd rfl (R.os k B hk ha).2.2.2
        · rw [if_neg e'] at hb
          exact R.inj k l a hk hl ha hb
    · simp only [show ¬ kk hd + 1 < kk hd by omega, show ¬ kk hd + 1 = kk hd by omega, if_false]
      exact R.gd.cgl (bl R.od)
    · by_cases e : j = kk hd
      · subst e
        refine ⟨B, by show (if (F1 + kk hd) % 40 = (F1 + kk hd) % 40 then some B else Sl ((F1 + kk hd) % 40)) = some B; rw [if_pos rfl], ?_⟩
        rw [if_pos (by omega)]
        simp only [Nat.lt_irrefl, if_false, if_true]
        exact g.cgl (bl R.ob)
      · obtain ⟨a, a1, a2⟩ := gsl j (by omega)
        refine ⟨a, by show (if (F1 + j) % 40 = (F1 + kk hd) % 40 then some B else Sl ((F1 + j) % 40)) = some a; rw [if_neg (jne j (by omega))]; exact a1, ?_⟩
        rw [if_pos (by omega)]
        simp only [show j < kk hd by omega, if_true]
        exact a2.cgl (bl (R.os _ a (Nat.mod_lt _ (by omega)) a1).1)
    · rw [rI_uP, (c X (by omega) (by omega) (by omega)).2.1]; exact R.wi
    · have := R.w4
      rw [rI_uP, (c (X + 110 + j) (by omega) (by omega) (by omega)).2.1]; exact R.wb j c3 hj hc
    · rw [(w3 X (by omega)).1, eK1]
end KEEP
