/-! THE WINDOW AT A POINT: both ways agree -/
section INV
variable {v : Nat → Int32} {n c : Nat} {p lo r rl C H P : Nat → Nat} {h : pm_H} {d : Nat}
/-- does place k hold the point, for a float and for a tile -/
theorem hk_fl (si : SI v n c p lo r rl) (q : RI v C H P) {j k : Nat} (hj : j < n) (hk : k < C (p j)) {x y : Int32} (hf : v (620 + 6 * wV v (p j) k + 1) = nI 1) : hkV v n lo C H P (p j) x y k = bholds (flV v j (wV v (p j) k)) x y := by
  obtain ⟨p1, p2⟩ := si.pj hj
  obtain ⟨o1, o2, o3, o4, o5⟩ := q.od (p j) k p1 hk
  simp [hkV, shV, rcV, hf, o4, p2, hj]
theorem hk_ti (si : SI v n c p lo r rl) (q : RI v C H P) {j k : Nat} (hj : j < n) (hk : k < C (p j)) {x y : Int32} (hf : tileV v (p j) k) (h2 : ¬ v (35 + 65 * p j) = nI 2) : hkV v n lo C H P (p j) x y k = bholds (narB (bxV v j) (v (35 + 65 * p j)) (v (35 + 65 * p j + 1)) (v (35 + 65 * p j + 2)) (tz v (p j) k) (tz v (p j) (C (p j)))) x y := by
  obtain ⟨p1, p2⟩ := si.pj hj
  obtain ⟨o1, o2, o3, o4, o5⟩ := q.od (p j) k p1 hk
  rw [tileV] at hf
  simp [hkV, shV, rcV, hf, o4, o5, p2, hj, h2]
theorem hk_fu (si : SI v n c p lo r rl) (q : RI v C H P) {j k : Nat} (hj : j < n) (hk : k < C (p j)) {x y : Int32} (hb : bholds (bxV v j) x y = true) (hf : tileV v (p j) k) (h2 : v (35 + 65 * p j) = nI 2) : hkV v n lo C H P (p j) x y k = decide (fullV v (p j) (C (p j)) = v (35 + 65 * p j + 5 + k)) := by
  obtain ⟨p1, p2⟩ := si.pj hj
  obtain ⟨o1, o2, o3, o4, o5⟩ := q.od (p j) k p1 hk
  rw [tileV] at hf
  have e : narB (bxV v j) (nI 2) (v (35 + 65 * p j + 1)) (v (35 + 65 * p j + 2)) (tz v (p j) k) (tz v (p j) (C (p j))) = bxV v j := by simp (disch := omega) only [narB, ar_eq, if_true, if_false, ite_true, ite_false, not_true_eq_false, not_false_eq_true, true_or, or_true, false_or, or_false, and_self, ok_n0, ok_ni, ok_nr, ok_nl, va_rf_some, va_rf_none, true_and, and_true, List.length_nil, List.length_cons, Option.toList_some, Option.toList_none, List.cons_append, List.nil_append, rK_uA, rK_uI, rK_uJ, rK_uP, rP_uA, rP_uI, rP_uJ, rJ_uA, rJ_uI, rJ_uP, rI_uJ, rI_uP, rz_uA, rz_uI, rz_uJ, rz_uP, rs_uA, rs_uI, rs_uJ, rs_uP, Nat.reduceAdd, Nat.reduceMul, Nat.reduceSub, Nat.reduceLeDiff, Nat.reduceLT, Nat.reduceEqDiff, Nat.add_zero, Nat.zero_add, Nat.zero_le]
  simp [hkV, shV, rcV, hf, o4, o5, p2, hj, h2, e, hb, o2]
theorem tile_eq (t : DV h d v n C H) (si : SI v n c p lo r rl) (q : RI v C H P) {j : Nat} (hj : j < n) {x y : Int32} (hb : bholds (bxV v j) x y = true) : tileR (rJ h (d + 50) 0) (rI h (d + 5 + 4 * p j)) (rI h (d + 39 + 2 + j)) (C (p j)) (rI h (d + 3 + 4 * p j) 1) (rI h (d + 6 + 4 * p j) 0) (rI h (d + 6 + 4 * p j) 1) (rI h (d + 6 + 4 * p j) 2) x y = mtiV v (p j) (hkV v n lo C H P (p j) x y) (C (p j)) := by
  obtain ⟨p1, p2⟩ := si.pj hj
  have hc := q.c60 _ p1
  have k0 : rI h (d + 6 + 4 * p j) 0 = v (35 + 65 * p j) := t.lay (p j) 0 p1 (by omega)
  have k1 := t.lay (p j) 1 p1 (by omega)
  have k2 := t.lay (p j) 2 p1 (by omega)
  rw [tileR, k0, k1, k2]
  by_cases h2 : v (35 + 65 * p j) = nI 2
  · rw [if_pos h2, t.fti q p1]
    rcases full_cases q p1 with ⟨k, a1, a2, a3⟩ | ⟨a1, a2⟩
    · rw [a3]
      symm
      refine mti_at ⟨?_, a2⟩ _ a1 (fun z z1 z2 z3 => ?_)
      · rw [hk_fu si q hj a1 hb a2 h2, a3]; simp
      · rw [hk_fu si q hj z2 hb z3.2 h2, a3] at z3
        have := of_decide_eq_true z3.1
        have o1 := q.od _ k p1 a1
        have o2 := q.od _ z p1 z2
        rw [o1.2.1, o2.2.1] at this
        have e := nI_inj (by omega) (by omega) this
        rw [e] at o1
        omega
    · rw [a1]
      symm
      exact mti_no _ (fun z z1 z2 => a2 z z1 z2.2)
  · rw [if_neg h2]
    obtain ⟨κ, hκ1, hκ2⟩ := q.kd _ p1
    obtain ⟨mm, hm1, hm2⟩ := q.ms _ p1
    have h2κ : κ ≠ 2 := fun e => h2 (by rw [hκ2, e])
    have gb := si.gb hj
    have bx := si.bx _ hj
    have zc := tz_le v (p j) (C (p j))
    have sd := nar_sd (p := v (35 + 65 * p j + 2)) gb bx.2.2.1.1 bx.2.2.2.1 hκ1 h2κ hm1 (show tz v (p j) (C (p j)) ≤ 60 by omega)
    have hl : ∀ k, k < C (p j) → tileV v (p j) k → (bholds (narB (rI h (d + 39 + 2 + j)) (v (35 + 65 * p j)) (v (35 + 65 * p j + 1)) (v (35 + 65 * p j + 2)) (tz v (p j) k) (tz v (p j) (C (p j)))) x y = hkV v n lo C H P (p j) x y k) := fun k a b => by
      rw [hk_ti si q hj a b h2]
      exact eq4_holds (eq4_narB (t.bx4 hj) _ _ _ _ _) x y
    have uq : ∀ a b, a < C (p j) → b < C (p j) → tileV v (p j) a → tileV v (p j) b → hkV v n lo C H P (p j) x y a = true → hkV v n lo C H P (p j) x y b = true → a = b := by
      intro a b ha hb ta tb ea eb
      rw [hk_ti si q hj ha ta h2, hκ2, hm2, GB.holds (gb.sub (sd.1 _ (tz_lt ta ha)))] at ea
      rw [hk_ti si q hj hb tb h2, hκ2, hm2, GB.holds (gb.sub (sd.1 _ (tz_lt tb hb)))] at eb
      exact tz_inj ta tb (sd.2 _ _ _ _ (tz_lt ta ha) (tz_lt tb hb) ea eb)
    rw [tcnt_0 t q p1 (Nat.le_refl _)]
    have z0 : tz v (p j) 0 = 0 := rfl
    by_cases ex : ∃ g, g < C (p j) ∧ tileV v (p j) g ∧ hkV v n lo C H P (p j) x y g = true
    · obtain ⟨g, g1, g2, g3⟩ := ex
      have := tlat_at (v := v) (Y := rJ h (d + 50) 0) (f := rI h (d + 5 + 4 * p j)) (B := rI h (d + 39 + 2 + j)) (t := v (35 + 65 * p j)) (m := v (35 + 65 * p j + 1)) (p := v (35 + 65 * p j + 2)) (N := tz v (p j) (C (p j))) (x := x) (y := y) (g := g) (C (p j)) 0 (by omega) (by omega) (fun a a1 a2 => t.fhk q p1 (by omega)) g2 (by rw [hl g g1 g2]; exact g3) (fun a a1 a2 a3 a4 => by
        rw [hl a (by omega) a3] at a4
        have := uq a g (by omega) g1 a3 g2 a4 g3
        omega)
      rw [z0] at this
      rw [this, t.ord _ _ p1 g1]
      symm
      refine mti_at ⟨g3, g2⟩ _ g1 (fun a a1 a2 a3 => ?_)
      have := uq a g (by omega) g1 a3.2 g2 a3.1 g3
      omega
    · have := tlat_no (v := v) (Y := rJ h (d + 50) 0) (f := rI h (d + 5 + 4 * p j)) (B := rI h (d + 39 + 2 + j)) (t := v (35 + 65 * p j)) (m := v (35 + 65 * p j + 1)) (p := v (35 + 65 * p j + 2)) (N := tz v (p j) (C (p j))) (x := x) (y := y) (C (p j)) 0 (fun a a1 a2 => t.fhk q p1 (by omega)) (fun a a1 a2 a3 a4 => by
        rw [hl a (by omega) a3] at a4
        exact ex ⟨a, by omega, a3, a4⟩)
      rw [z0] at this
      rw [this]
      symm
      exact mti_no _ (fun a a1 a2 => ex ⟨a, a1, a2.2, a2.1⟩)
theorem wat_mat (t : DV h d v n C H) (si : SI v n c p lo r rl) (q : RI v C H P) {j : Nat} (hj : j < n) {x y : Int32} (hb : bholds (bxV v j) x y = true) : watR (rJ h (d + 50) 0) (rI h (d + 5 + 4 * p j)) (rI h (d + 39 + 2 + j)) (rI h (d + 51)) (C (p j)) (rI h (d + 3 + 4 * p j) 1) (rI h (d + 6 + 4 * p j) 0) (rI h (d + 6 + 4 * p j) 1) (rI h (d + 6 + 4 * p j) 2) x y = matV v (p j) (hkV v n lo C H P (p j) x y) (C (p j)) := by
  obtain ⟨p1, p2⟩ := si.pj hj
  have hc := q.c60 _ p1
  have te := tile_eq t si q hj hb
  have fk : ∀ k, k < C (p j) → (fholds (rJ h (d + 50) 0) (rI h (d + 39 + 2 + j)) (rI h (d + 51)) (nI (wV v (p j) k)) x y = true ↔ (hkV v n lo C H P (p j) x y k = true ∧ v (620 + 6 * wV v (p j) k + 1) = nI 1)) := by
    intro k hk
    obtain ⟨o1, o2, o3, o4, o5⟩ := q.od (p j) k p1 hk
    rw [fholds, t.fh o1, ar_cl (by omega), Bool.and_eq_true, decide_eq_true_eq, eq4_holds (t.flr hj o1)]
    constructor
    · intro ⟨a, b⟩; exact ⟨by rw [hk_fl si q hj hk a]; exact b, a⟩
    · intro ⟨a, b⟩; rw [hk_fl si q hj hk b] at a; exact ⟨b, a⟩
  have m1 : fholds (rJ h (d + 50) 0) (rI h (d + 39 + 2 + j)) (rI h (d + 51)) (-1) x y = false := by rw [fholds, fh_m1]; rfl
  rw [watR, q.get_foc t p1, te, matV]
  have pos : ∀ k, k < C (p j) → ¬ v (35 + 65 * p j + 5 + k) < nI 0 := fun k hk => by
    have o := q.od (p j) k p1 hk
    rw [o.2.1, ar_lt (by omega) (by omega)]; omega
  by_cases ex : ∃ g, g < C (p j) ∧ hkV v n lo C H P (p j) x y g = true ∧ v (620 + 6 * wV v (p j) g + 1) = nI 1
  · -- the first of them
    have fst : ∀ N, (∃ g, g < N ∧ g < C (p j) ∧ hkV v n lo C H P (p j) x y g = true ∧ v (620 + 6 * wV v (p j) g + 1) = nI 1) → ∃ g, g < C (p j) ∧ (hkV v n lo C H P (p j) x y g = true ∧ v (620 + 6 * wV v (p j) g + 1) = nI 1) ∧ ∀ a, a < g → ¬ (hkV v n lo C H P (p j) x y a = true ∧ v (620 + 6 * wV v (p j) a + 1) = nI 1) := by
      intro N
      induction N with
      | zero => intro ⟨g, h1, _⟩; omega
      | succ N ih =>
        intro ⟨g, h1, h2, h3, h4⟩
        by_cases e2 : ∃ g, g < N ∧ g < C (p j) ∧ hkV v n lo C H P (p j) x y g = true ∧ v (620 + 6 * wV v (p j) g + 1) = nI 1
        · exact ih e2
        · exact ⟨g, h2, ⟨h3, h4⟩, fun a a1 a2 => e2 ⟨a, by omega, by omega, a2⟩⟩
    obtain ⟨g0, e1, e2, e3⟩ := ex
    obtain ⟨f0, f1, f2, f3⟩ := fst (g0 + 1) ⟨g0, by omega, e1, e2, e3⟩
    rcases q.foc p1 with ⟨z0, -⟩ | ⟨F, F1, F2, F3⟩
    · omega
    · have oF := q.od (p j) F p1 F1
      have of := q.od (p j) f0 p1 f1
      have inj : ∀ k, k < C (p j) → v (35 + 65 * p j + 5 + k) = focV v (p j) → k = F := by
        intro k hk e
        have o := q.od (p j) k p1 hk
        rw [F3, o.2.1] at e
        have e := nI_inj (by omega) (by omega) e
        rw [e] at o
        omega
      have af := mfl_af (oF.2.1.trans F3.symm) inj pos F1 f2 f3 (C (p j)) f1 (Nat.le_refl _)
      by_cases cA : hkV v n lo C H P (p j) x y F = true ∧ v (620 + 6 * wV v (p j) F + 1) = nI 1
      · rw [if_pos ⟨cA, F1⟩] at af
        have nn : ¬ focV v (p j) < nI 0 := by rw [F3, ar_lt (by omega) (by omega)]; omega
        rw [af, if_neg nn, F3, if_pos ((fk F F1).mpr cA)]
      · rw [if_neg (fun z => cA z.1)] at af
        rw [af, if_neg (pos f0 f1), F3, if_neg (fun z => cA ((fk F F1).mp z)), ← t.ord _ _ p1 f1]
        refine fltat_at _ 0 _ (by omega) (by omega) ?_ (fun a a1 a2 a3 => ?_)
        · rw [t.fo q p1 f1]; exact (fk f0 f1).mpr f2
        · rw [t.fo q p1 (by omega)] at a3
          exact f3 a a2 ((fk a (by omega)).mp a3)
  · have no : mflV v (p j) (hkV v n lo C H P (p j) x y) (C (p j)) = -1 := mfl_no _ (fun a a1 a2 => ex ⟨a, a1, a2⟩)
    rw [no, if_pos (show (-1 : Int32) < nI 0 by decide +kernel)]
    have ff : ¬ fholds (rJ h (d + 50) 0) (rI h (d + 39 + 2 + j)) (rI h (d + 51)) (focV v (p j)) x y = true := by
      rcases q.foc p1 with ⟨z0, z1, z2⟩ | ⟨F, F1, F2, F3⟩
      · rw [z2, m1]; decide
      · rw [F3]; exact fun z => ex ⟨F, F1, (fk F F1).mp z⟩
    rw [if_neg ff]
    refine fltat_no _ 0 _ (fun a a1 a2 a3 => ?_)
    rw [t.fo q p1 (by omega)] at a3
    exact ex ⟨a, by omega, (fk a (by omega)).mp a3⟩
theorem scat_d (t : DV h d v n C H) (x y : Int32) : ∀ m k, k + m ≤ n → scat (fun j => rI h (d + 39 + 2 + j)) x y m k = scat (bxV v) x y m k := by
  intro m
  induction m with
  | zero => intro k _; rfl
  | succ m ih =>
    intro k hk
    rw [scat, scat, ih (k + 1) (by omega), eq4_holds (t.bx4 (show k < n by omega))]
theorem scat_c (B : Nat → Nat → Int32) (x y : Int32) : ∀ m k, scat B x y m k = -1 ∨ ∃ j, k ≤ j ∧ j < k + m ∧ scat B x y m k = nI j ∧ bholds (B j) x y = true := by
  intro m
  induction m with
  | zero => intro k; exact Or.inl rfl
  | succ m ih =>
    intro k
    rw [scat]
    by_cases hb : bholds (B k) x y = true
    · exact Or.inr ⟨k, by omega, by omega, if_pos hb, hb⟩
    · rw [if_neg hb]
      rcases ih (k + 1) with e | ⟨j, h1, h2, h3, h4⟩
      · exact Or.inl e
      · exact Or.inr ⟨j, by omega, by omega, h3, h4⟩
end INV
