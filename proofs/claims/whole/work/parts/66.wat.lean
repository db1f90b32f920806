/-! THE DESK'S OWN WAY TO THE SAME WINDOW -/
theorem fltat_no {Y : Int64} {f B sh : Nat → Int32} {x y : Int32} : ∀ m k (r : Int32), (∀ j, k ≤ j → j < k + m → ¬ fholds Y B sh (f j) x y = true) → fltat Y f B sh x y m k r = r := by
  intro m
  induction m with
  | zero => intro k r _; rfl
  | succ m ih =>
    intro k r h
    rw [fltat, if_neg (h k (by omega) (by omega)), ih (k + 1) r (fun j h1 h2 => h j (by omega) (by omega))]
theorem fltat_at {Y : Int64} {f B sh : Nat → Int32} {x y : Int32} {g : Nat} : ∀ m k (r : Int32), k ≤ g → g < k + m → fholds Y B sh (f g) x y = true → (∀ j, k ≤ j → j < g → ¬ fholds Y B sh (f j) x y = true) → fltat Y f B sh x y m k r = f g := by
  intro m
  induction m with
  | zero => intro k r h1 h2; omega
  | succ m ih =>
    intro k r h1 h2 h3 h4
    rw [fltat]
    by_cases hk : k = g
    · subst hk; rw [if_pos h3]
    · rw [if_neg (h4 k (by omega) (by omega))]
      exact ih (k + 1) r (by omega) (by omega) h3 (fun j h5 h6 => h4 j (by omega) h6)
theorem mfl_no {v : Nat → Int32} {i : Nat} {hk : Nat → Bool} : ∀ k, (∀ j, j < k → ¬ (hk j = true ∧ v (620 + 6 * wV v i j + 1) = nI 1)) → mflV v i hk k = -1 := by
  intro k
  induction k with
  | zero => intro _; rfl
  | succ k ih =>
    intro h
    rw [mflV, if_neg (h k (by omega)), ih (fun j hj => h j (by omega))]
theorem mfl_af {v : Nat → Int32} {i f0 F c : Nat} {hk : Nat → Bool} (hF : v (35 + 65 * i + 5 + F) = focV v i) (inj : ∀ k, k < c → v (35 + 65 * i + 5 + k) = focV v i → k = F) (pos : ∀ k, k < c → ¬ v (35 + 65 * i + 5 + k) < nI 0) (hFc : F < c) (h0 : hk f0 = true ∧ v (620 + 6 * wV v i f0 + 1) = nI 1) (h1 : ∀ j, j < f0 → ¬ (hk j = true ∧ v (620 + 6 * wV v i j + 1) = nI 1)) : ∀ k, f0 < k → k ≤ c → mflV v i hk k = if (hk F = true ∧ v (620 + 6 * wV v i F + 1) = nI 1) ∧ F < k then focV v i else v (35 + 65 * i + 5 + f0) := by
  intro k
  induction k with
  | zero => intro h; omega
  | succ k ih =>
    intro hk1 hk2
    by_cases e : k = f0
    · subst e
      have hm : mflV v i hk k < nI 0 := by rw [mfl_no k h1]; decide +kernel
      rw [mflV, if_pos h0, if_pos (Or.inl hm)]
      by_cases c1 : (hk F = true ∧ v (620 + 6 * wV v i F + 1) = nI 1) ∧ F < k + 1
      · rw [if_pos c1]
        have : ¬ F < k := fun z => h1 F z c1.1
        have : F = k := by omega
        rw [← this]; exact hF
      · rw [if_neg c1]
    · have ih' := ih (by omega) (by omega)
      have nn : ¬ mflV v i hk k < nI 0 := by
        rw [ih']
        split
        · rw [← hF]; exact pos F hFc
        · exact pos f0 (by omega)
      rw [mflV]
      by_cases c1 : hk k = true ∧ v (620 + 6 * wV v i k + 1) = nI 1
      · rw [if_pos c1]
        by_cases c2 : v (35 + 65 * i + 5 + k) = focV v i
        · have := inj k (by omega) c2
          subst this
          rw [if_pos (Or.inr c2), if_pos ⟨c1, by omega⟩, c2]
        · rw [if_neg (by rintro (z | z); exact nn z; exact c2 z), ih']
          have ne : F ≠ k := fun z => c2 (by rw [← z]; exact hF)
          by_cases c3 : (hk F = true ∧ v (620 + 6 * wV v i F + 1) = nI 1) ∧ F < k
          · rw [if_pos c3, if_pos ⟨c3.1, by omega⟩]
          · rw [if_neg c3, if_neg (fun z => c3 ⟨z.1, by omega⟩)]
      · rw [if_neg c1, ih']
        by_cases c3 : (hk F = true ∧ v (620 + 6 * wV v i F + 1) = nI 1) ∧ F < k
        · rw [if_pos c3, if_pos ⟨c3.1, by omega⟩]
        · rw [if_neg c3, if_neg (fun z => c3 ⟨z.1, by
            have : F ≠ k := fun y => c1 (by rw [← y]; exact z.1)
            omega⟩)]
theorem mti_no {v : Nat → Int32} {i : Nat} {hk : Nat → Bool} : ∀ k, (∀ j, j < k → ¬ (hk j = true ∧ tileV v i j)) → mtiV v i hk k = -1 := by
  intro k
  induction k with
  | zero => intro _; rfl
  | succ k ih =>
    intro h
    have hk' := h k (by omega)
    rw [tileV] at hk'
    rw [mtiV, if_neg hk', ih (fun j hj => h j (by omega))]
theorem mti_at {v : Nat → Int32} {i g : Nat} {hk : Nat → Bool} (h0 : hk g = true ∧ tileV v i g) : ∀ k, g < k → (∀ j, g < j → j < k → ¬ (hk j = true ∧ tileV v i j)) → mtiV v i hk k = v (35 + 65 * i + 5 + g) := by
  intro k
  induction k with
  | zero => intro h; omega
  | succ k ih =>
    intro h1 h2
    rw [mtiV]
    by_cases e : k = g
    · subst e; exact if_pos h0
    · have q := h2 k (by omega) (by omega)
      rw [tileV] at q
      rw [if_neg q]
      exact ih (by omega) (fun j a b => h2 j a (by omega))
theorem tlat_no {v : Nat → Int32} {Y : Int64} {f B : Nat → Int32} {t m p : Int32} {N i : Nat} {x y : Int32} : ∀ r k, (∀ j, k ≤ j → j < k + r → fhas Y (f j) = decide (v (620 + 6 * wV v i j + 1) = nI 1)) → (∀ j, k ≤ j → j < k + r → tileV v i j → ¬ bholds (narB B t m p (tz v i j) N) x y = true) → tlat Y f B t m p N x y r k (tz v i k) = -1 := by
  intro r
  induction r with
  | zero => intro k _ _; rfl
  | succ r ih =>
    intro k h1 h2
    have := ih (k + 1) (fun j a b => h1 j (by omega) (by omega)) (fun j a b => h2 j (by omega) (by omega))
    rw [tz] at this
    rw [tlat, h1 k (by omega) (by omega)]
    simp only [decide_eq_true_eq]
    by_cases c1 : v (620 + 6 * wV v i k + 1) = nI 1
    · rw [if_pos c1] at this ⊢; exact this
    · rw [if_neg c1] at this ⊢
      rw [if_neg (h2 k (by omega) (by omega) c1)]; exact this
theorem tlat_at {v : Nat → Int32} {Y : Int64} {f B : Nat → Int32} {t m p : Int32} {N i g : Nat} {x y : Int32} : ∀ r k, k ≤ g → g < k + r → (∀ j, k ≤ j → j < k + r → fhas Y (f j) = decide (v (620 + 6 * wV v i j + 1) = nI 1)) → tileV v i g → bholds (narB B t m p (tz v i g) N) x y = true → (∀ j, k ≤ j → j < g → tileV v i j → ¬ bholds (narB B t m p (tz v i j) N) x y = true) → tlat Y f B t m p N x y r k (tz v i k) = f g := by
  intro r
  induction r with
  | zero => intro k h1 h2; omega
  | succ r ih =>
    intro k h1 h2 h3 h4 h5 h6
    rw [tlat, h3 k (by omega) (by omega)]
    simp only [decide_eq_true_eq]
    by_cases e : k = g
    · subst e
      rw [if_neg h4, if_pos h5]
    · have := ih (k + 1) (by omega) (by omega) (fun j a b => h3 j (by omega) (by omega)) h4 h5 (fun j a b => h6 j (by omega) b)
      rw [tz] at this
      by_cases c1 : v (620 + 6 * wV v i k + 1) = nI 1
      · rw [if_pos c1] at this ⊢; exact this
      · rw [if_neg c1] at this ⊢
        rw [if_neg (h6 k (by omega) (by omega) c1)]; exact this
section INV
variable {v : Nat → Int32} {n c : Nat} {p lo r rl C H P : Nat → Nat} {h : pm_H} {d : Nat}
theorem full_cases (q : RI v C H P) {i : Nat} (hi : i < 9) : (∃ k, k < C i ∧ tileV v i k ∧ fullV v i (C i) = v (35 + 65 * i + 5 + k)) ∨ (fullV v i (C i) = -1 ∧ ∀ k, k < C i → ¬ tileV v i k) := by
  rcases q.foc hi with ⟨h0, h1, h2⟩ | ⟨F, f1, f2, f3⟩
  · refine Or.inr ⟨?_, fun k hk => by omega⟩
    rw [fullV, if_pos (Or.inl h2), h2]
  · have oF := q.od i F hi f1
    by_cases tf : tileV v i F
    · refine Or.inl ⟨F, f1, tf, ?_⟩
      rw [fullV, f3, ar_cl (by omega), oF.2.1]
      exact if_pos (Or.inr tf)
    · have e : fullV v i (C i) = fstV v i (C i) 0 := by
        rw [fullV, f3, ar_cl (by omega)]
        refine if_neg ?_
        rintro (z | z)
        · rw [ar_nm (by omega)] at z; exact z
        · exact tf z
      by_cases hz : 0 < tz v i (C i)
      · obtain ⟨k, k1, k2, k3⟩ := tz_sur (C i) 0 hz
        refine Or.inl ⟨k, k1, k2, ?_⟩
        rw [e]
        refine fstV_at _ 0 (by omega) (by omega) k2 (fun j j1 j2 j3 => ?_)
        have := tz_lt j3 j2
        omega
      · have no : ∀ k, k < C i → ¬ tileV v i k := fun k hk hk2 => by
          have := tz_lt hk2 hk
          omega
        refine Or.inr ⟨?_, no⟩
        rw [e]
        exact fstV_no _ 0 (fun j _ j2 => no j (by omega))
theorem DV.fo (t : DV h d v n C H) (q : RI v C H P) {i k : Nat} (hi : i < 9) (hk : k < C i) : rI h (d + 5 + 4 * i) k = nI (wV v i k) := (t.ord i k hi hk).trans (q.od i k hi hk).2.1
theorem DV.fhk (t : DV h d v n C H) (q : RI v C H P) {i k : Nat} (hi : i < 9) (hk : k < C i) : fhas (rJ h (d + 50) 0) (rI h (d + 5 + 4 * i) k) = decide (v (620 + 6 * wV v i k + 1) = nI 1) := by
  rw [t.fo q hi hk, t.fh (q.od i k hi hk).1]
theorem DV.tfs (t : DV h d v n C H) (q : RI v C H P) {i : Nat} (hi : i < 9) : ∀ m k, k + m ≤ C i → tfst (rJ h (d + 50) 0) (rI h (d + 5 + 4 * i)) m k = fstV v i m k := by
  intro m
  induction m with
  | zero => intro k _; rfl
  | succ m ih =>
    intro k hk
    rw [tfst, fstV, t.fhk q hi (by omega), ih (k + 1) (by omega), t.ord i k hi (by omega)]
    simp only [decide_eq_true_eq]
theorem DV.fti (t : DV h d v n C H) (q : RI v C H P) {i : Nat} (hi : i < 9) : ftil (rJ h (d + 50) 0) (rI h (d + 5 + 4 * i)) (C i) (lget (rI h (d + 5 + 4 * i)) (C i) (rI h (d + 3 + 4 * i) 1)) = fullV v i (C i) := by
  rw [q.get_foc t hi, ftil, fullV, t.tfs q hi _ 0 (by omega)]
  rcases q.foc hi with ⟨h0, h1, h2⟩ | ⟨F, f1, f2, f3⟩
  · rw [h2, if_pos (Or.inl rfl), if_pos (Or.inl rfl)]
  · have oF := q.od i F hi f1
    rw [f3, t.fh oF.1, ar_cl (by omega)]
    simp only [decide_eq_false_iff_not]
theorem DV.bx4 (t : DV h d v n C H) {j : Nat} (hj : j < n) : eq4 (rI h (d + 39 + 2 + j)) (bxV v j) := ⟨t.bx j 0 hj (by omega), t.bx j 1 hj (by omega), t.bx j 2 hj (by omega), t.bx j 3 hj (by omega)⟩
theorem DV.flr (t : DV h d v n C H) {j w : Nat} (hj : j < n) (hw : w < 60) : eq4 (flR (rI h (d + 39 + 2 + j)) (rI h (d + 51)) w) (flV v j w) := by
  obtain ⟨e0, e1, e2, e3⟩ := t.bx4 hj
  have s0 := t.shr w 0 hw (by omega)
  have s1 := t.shr w 1 hw (by omega)
  have s2 := t.shr w 2 hw (by omega)
  have s3 := t.shr w 3 hw (by omega)
  unfold flR flV
  rw [e0, e1, e2, e3, show w * 4 = w * 4 + 0 from rfl, s0, s1, s2, s3]
  exact eq4_bx _ _ _ _ _ _
theorem s_findBox (t : DV h d v n C H) (si : SI v n c p lo r rl) (q : RI v C H P) {qb w : Nat} (kq : rK h qb = (1, 0)) (hq : qb < d ∨ d + 53 ≤ qb) (hw : w < 60) (ht : v (620 + 6 * w) = nI 1) (Q : Option Value × pm_H → Prop) (hQ : ∀ g, (shV v n lo C H w = true → eq4 g (rcV v lo C H P w)) → Q (some (.int (nb (shV v n lo C H w))), uA h qb g)) : pGo 24 0 [some (.ref d), some (.int (nI w)), some (.ref qb), none, none, none, none] [] h Q := by
  have n4 := si.n4
  obtain ⟨h1, h2, h3⟩ := q.hp w hw ht
  have ds := t.ds si q
  have hm : rI h (d + 52) w = nI (H w) := by rw [t.hom w hw, if_pos ht]
  have hm1 : ¬ rI h (d + 52) w = -1 := by rw [hm, ar_nm (by omega)]; exact id
  by_cases hl : lo (H w) < n
  · have hs := si.fnd_y t h1 hl
    by_cases hf : v (620 + 6 * w + 1) = nI 1
    · have e : shV v n lo C H w = true := by simp [shV, hl, hf]
      refine s_findBox_flt ds kq hq hw hm1 (by rw [hm]; exact hs) (by omega) (by rw [t.fh hw, hf]; simp) Q (fun g hg => ?_)
      have := hQ g (fun _ => by
        rw [rcV, if_pos hf]
        obtain ⟨a0, a1, a2, a3⟩ := hg
        obtain ⟨b0, b1, b2, b3⟩ := t.flr hl hw
        exact ⟨a0.trans b0, a1.trans b1, a2.trans b2, a3.trans b3⟩)
      rw [e] at this
      exact this
    · have ff : fhas (rJ h (d + 50) 0) (nI w) = false := by rw [t.fh hw]; simp [hf]
      have kk := t.lay (H w) 0 h1 (by omega)
      rw [Nat.add_zero] at kk
      by_cases h2κ : v (35 + 65 * H w) = nI 2
      · refine s_findBox_full ds kq hq hw hm h1 hs (by omega) ff (by rw [kk]; exact h2κ) Q (fun g hg => ?_)
        have e : shV v n lo C H w = decide (fullV v (H w) (C (H w)) = nI w) := by simp [shV, hl, hf, h2κ]
        have := hQ g (fun _ => by
          have e2 : rcV v lo C H P w = bxV v (lo (H w)) := by
            rw [rcV, if_neg hf, h2κ]
            simp (disch := omega) only [narB, ar_eq, if_true, if_false, ite_true, ite_false, not_true_eq_false, not_false_eq_true, true_or, or_true, false_or, or_false, and_self, ok_n0, ok_ni, ok_nr, ok_nl, va_rf_some, va_rf_none, true_and, and_true, List.length_nil, List.length_cons, Option.toList_some, Option.toList_none, List.cons_append, List.nil_append, rK_uA, rK_uI, rK_uJ, rK_uP, rP_uA, rP_uI, rP_uJ, rJ_uA, rJ_uI, rJ_uP, rI_uJ, rI_uP, rz_uA, rz_uI, rz_uJ, rz_uP, rs_uA, rs_uI, rs_uJ, rs_uP, Nat.reduceAdd, Nat.reduceMul, Nat.reduceSub, Nat.reduceLeDiff, Nat.reduceLT, Nat.reduceEqDiff, Nat.add_zero, Nat.zero_add, Nat.zero_le]
          rw [e2]
          obtain ⟨a0, a1, a2, a3⟩ := hg
          obtain ⟨b0, b1, b2, b3⟩ := t.bx4 hl
          exact ⟨a0.trans b0, a1.trans b1, a2.trans b2, a3.trans b3⟩)
        rw [e] at this
        rw [t.fti q h1]
        exact this
      · refine s_findBox_tile ds kq hq hw hm h1 hs (by omega) ff (by rw [kk]; exact h2κ) (q.ord_fnd t hw ht) h2 Q (fun g hg => ?_)
        have e : shV v n lo C H w = true := by simp [shV, hl, h2κ]
        have := hQ g (fun _ => by
          rw [rcV, if_neg hf]
          have l1 := t.lay (H w) 1 h1 (by omega)
          have l2 := t.lay (H w) 2 h1 (by omega)
          rw [kk, l1, l2, tcnt_0 t q h1 (Nat.le_of_lt h2), tcnt_0 t q h1 (Nat.le_refl _)] at hg
          obtain ⟨a0, a1, a2, a3⟩ := hg
          obtain ⟨b0, b1, b2, b3⟩ := eq4_narB (t.bx4 hl) (v (35 + 65 * H w)) (v (35 + 65 * H w + 1)) (v (35 + 65 * H w + 2)) (tz v (H w) (P w)) (tz v (H w) (C (H w)))
          exact ⟨a0.trans b0, a1.trans b1, a2.trans b2, a3.trans b3⟩)
        rw [e] at this
        exact this
  · have e : shV v n lo C H w = false := by simp [shV, hl]
    have hs := si.fnd_n t h1 hl
    rw [s_findBox_hid ds hw hm1 (by rw [hm]; exact hs)]
    have := hQ (rI h qb) (fun z => by rw [e] at z; cases z)
    rw [e, uA_self] at this
    exact this
end INV
