/-! THE TWO WAYS OF CUTTING: edges and what is left -/
def eN (H k m : Nat) : Nat := k * (H / m) + (k - (m - H % m))
theorem eN_0 (H m : Nat) (hm : 1 ≤ m) : eN H 0 m = 0 := by
  have := Nat.mod_lt H (show 0 < m by omega)
  simp [eN]
theorem eN_step {H m k : Nat} (hm : 1 ≤ m) (hk : k < m) : eN H (k + 1) m = eN H k m + (H - eN H k m) / (m - k) ∧ eN H (k + 1) m ≤ H := by
  have hr := Nat.mod_lt H (show 0 < m by omega)
  have hH := Nat.div_add_mod H m
  generalize hq : H / m = q at *
  generalize hrr : H % m = r at *
  have e : ∀ j, eN H j m = j * q + (j - (m - r)) := fun j => by simp only [eN, hq, hrr]
  rw [e, e]
  have hmk : 0 < m - k := by omega
  have hm2 : m * q = k * q + (m - k) * q := by rw [← Nat.add_mul]; congr 1; omega
  have hk1 : (k + 1) * q = k * q + q := by rw [Nat.add_mul, Nat.one_mul]
  have hq1 : (m - k) * q ≥ q := Nat.le_mul_of_pos_left q hmk
  by_cases c1 : k < m - r
  · have e1 : k - (m - r) = 0 := by omega
    have e2 : k + 1 - (m - r) = 0 := by omega
    rw [e1, e2]
    have e3 : H - (k * q + 0) = r + (m - k) * q := by omega
    rw [e3, Nat.add_mul_div_left _ _ hmk, Nat.div_eq_of_lt (show r < m - k by omega)]
    omega
  · have e2 : k + 1 - (m - r) = k - (m - r) + 1 := by omega
    rw [e2]
    have e3 : H - (k * q + (k - (m - r))) = (m - k) * (q + 1) := by
      rw [Nat.mul_add, Nat.mul_one]
      omega
    rw [e3, Nat.mul_div_cancel_left _ hmk]
    omega
theorem eN_le {H m k : Nat} (hm : 1 ≤ m) (hk : k ≤ m) : eN H k m ≤ H := by
  cases k with
  | zero => rw [eN_0 H m hm]; exact Nat.zero_le _
  | succ k => exact (eN_step hm (by omega)).2
theorem edg_nI {H m k : Nat} (hH : H ≤ 10000) (hm : 1 ≤ m) (hm2 : m ≤ 60) (hk : k ≤ m) : edgI (nI H) (nI k) (nI m) = nI (eN H k m) := by
  have hr := Nat.mod_lt H (show 0 < m by omega)
  have hd : H / m ≤ H := Nat.div_le_self _ _
  have c1 : ¬ m < 1 := by omega
  have hrem : nI H - nI H / nI m * nI m = nI (H % m) := pk_rem (by omega) (by omega) (by omega)
  unfold edgI
  rw [hrem]
  have hb : k * (H / m) ≤ 600000 := Nat.le_trans (Nat.mul_le_mul (show k ≤ 60 by omega) (show H / m ≤ 10000 by omega)) (by decide)
  have c1' : ¬ nI m < nI 1 := by rw [ar_lt (by omega) (by omega)]; exact c1
  rw [if_neg c1', ar_sub (by omega), ar_div (by omega) (by omega) (by omega), ar_mul]
  by_cases c2 : k ≤ m - H % m
  · have c3 : ¬ nI 0 < nI k - nI (m - H % m) := by
      rw [Int32.lt_iff_toInt_lt, pk_sub_toInt (by omega) (by omega), nI_toInt (by omega)]
      omega
    rw [if_neg c3, ar_add, eN]
    congr 1; omega
  · have c3 : nI 0 < nI (k - (m - H % m)) := by rw [ar_lt (by omega) (by omega)]; omega
    rw [ar_sub (by omega), if_pos c3, ar_add, eN]
theorem stL_nI {H m : Nat} (hH : H ≤ 10000) (hm : 1 ≤ m) (hm2 : m ≤ 60) : ∀ k, k ≤ m → stL (nI H) m k = nI (H - eN H k m) := by
  intro k
  induction k with
  | zero => intro _; rw [stL, eN_0 H m hm]; rfl
  | succ k ih =>
    intro hk
    have hs := eN_step (H := H) hm (show k < m by omega)
    have hle := eN_le (H := H) hm (show k ≤ m by omega)
    have hdl := Nat.div_le_self (H - eN H k m) (m - k)
    rw [stL, ih (by omega), ar_div (by omega) (by omega) (by omega), ar_sub hdl, hs.1]
    congr 1; omega
theorem stP_nI {H m : Nat} (y : Int32) (hH : H ≤ 10000) (hm : 1 ≤ m) (hm2 : m ≤ 60) : ∀ k, k ≤ m → stP y (nI H) m k = y + nI (eN H k m) := by
  intro k
  induction k with
  | zero => intro _; rw [stP, eN_0 H m hm, nI_0, Int32.add_zero]
  | succ k ih =>
    intro hk
    have hs := eN_step (H := H) hm (show k < m by omega)
    have hle := eN_le (H := H) hm (show k ≤ m by omega)
    rw [stP, ih (by omega), stL_nI hH hm hm2 k (by omega), ar_div (by omega) (by omega) (by omega), Int32.add_assoc, ar_add, hs.1]
theorem stk_t {H m k : Nat} (g : Nat → Int32) (hg : g 3 = nI H) (hH : H ≤ 10000) (hm2 : m ≤ 60) (hk : k < m) : stk g (nI k) (nI m) 0 = g 0 ∧ stk g (nI k) (nI m) 1 = stP (g 1) (g 3) m k ∧ stk g (nI k) (nI m) 2 = g 2 ∧ stk g (nI k) (nI m) 3 = stL (g 3) m k / nI (m - k) := by
  have hm : 1 ≤ m := by omega
  have hs := eN_step (H := H) hm hk
  have hle := eN_le (H := H) hm (show k ≤ m by omega)
  have hdl := Nat.div_le_self (H - eN H k m) (m - k)
  refine ⟨by simp [stk, upd], ?_, by simp [stk, upd], ?_⟩
  · rw [hg, stP_nI _ hH hm hm2 k (by omega)]
    simp only [stk, upd_at]
    simp only [show ¬ (1 : Nat) = 3 by decide, if_false, if_true]
    rw [hg, edg_nI hH hm hm2 (by omega)]
  · rw [hg, stL_nI hH hm hm2 k (by omega), ar_div (by omega) (by omega) (by omega)]
    simp only [stk, upd_at, if_true]
    rw [hg, ar_add, edg_nI hH hm hm2 (by omega), edg_nI hH hm hm2 (by omega), ar_sub (by rw [hs.1]; exact Nat.le_add_right _ _), hs.1, Nat.add_sub_cancel_left]
theorem lnu_t {H m k : Nat} (g : Nat → Int32) (hg : g 2 = nI H) (hH : H ≤ 10000) (hm2 : m ≤ 60) (hk : k < m) : lnu g (nI k) (nI m) 1 = g 1 ∧ lnu g (nI k) (nI m) 0 = stP (g 0) (g 2) m k ∧ lnu g (nI k) (nI m) 3 = g 3 ∧ lnu g (nI k) (nI m) 2 = stL (g 2) m k / nI (m - k) := by
  have hm : 1 ≤ m := by omega
  have hs := eN_step (H := H) hm hk
  have hle := eN_le (H := H) hm (show k ≤ m by omega)
  have hdl := Nat.div_le_self (H - eN H k m) (m - k)
  refine ⟨by simp [lnu, upd], ?_, by simp [lnu, upd], ?_⟩
  · rw [hg, stP_nI _ hH hm hm2 k (by omega)]
    simp only [lnu, upd_at]
    simp only [show ¬ (0 : Nat) = 2 by decide, if_false, if_true]
    rw [hg, edg_nI hH hm hm2 (by omega)]
  · rw [hg, stL_nI hH hm hm2 k (by omega), ar_div (by omega) (by omega) (by omega)]
    simp only [lnu, upd_at, if_true]
    rw [hg, ar_add, edg_nI hH hm hm2 (by omega), edg_nI hH hm hm2 (by omega), ar_sub (by rw [hs.1]; exact Nat.le_add_right _ _), hs.1, Nat.add_sub_cancel_left]
theorem isT_st {A : T4} {f m t H : Nat} {g : Nat → Int32} (hg : g 3 = nI H) (hH : H ≤ 10000) (hm2 : m ≤ 60) (ht : t < m) : isT (stT A f m (g 0) (g 1) (g 2) (g 3) m) (f + t) (stk g (nI t) (nI m)) := by
  obtain ⟨e0, e1, e2, e3⟩ := stk_t g hg hH hm2 ht
  have hr : f ≤ f + t ∧ f + t < f + m := by omega
  have hs : f + t - f = t := by omega
  refine ⟨?_, ?_, ?_, ?_⟩ <;> simp only [stT, ovr, hr, hs, if_true, and_self, e0, e1, e2, e3]
theorem isT_sto {A : T4} {f m t : Nat} {x y w hh : Int32} {g : Nat → Int32} (h : isT A t g) (ht : t < f ∨ f + m ≤ t) : isT (stT A f m x y w hh m) t g := by
  obtain ⟨e0, e1, e2, e3⟩ := h
  have hr : ¬ (f ≤ t ∧ t < f + m) := by omega
  refine ⟨?_, ?_, ?_, ?_⟩ <;> simp only [stT, ovr, hr, if_false] <;> assumption
theorem isT_eq {A : T4} {t : Nat} {g g' : Nat → Int32} (h : isT A t g) (e : eq4 g g') : isT A t g' := by
  obtain ⟨h0, h1, h2, h3⟩ := h
  obtain ⟨e0, e1, e2, e3⟩ := e
  exact ⟨h0.trans e0, h1.trans e1, h2.trans e2, h3.trans e3⟩
theorem wid_eq (w p l : Int32) : wid w p l = mxx (nI 1) (mn (w * p / nI 1000) (w - l)) := by
  unfold wid mxx mn
  generalize (if w - l < w * p / nI 1000 then w - l else w * p / nI 1000) = z
  by_cases c1 : z < nI 1
  · rw [if_pos c1, if_neg]
    intro q
    have a := Int32.lt_iff_toInt_lt.mp c1
    have b := Int32.lt_iff_toInt_lt.mp q
    omega
  · rw [if_neg c1]
    by_cases c2 : nI 1 < z
    · rw [if_pos c2]
    · rw [if_neg c2]
      apply Int32.toInt_inj.mp
      have a := Int32.le_iff_toInt_le.mp (Int32.not_lt.mp c1)
      have b := Int32.le_iff_toInt_le.mp (Int32.not_lt.mp c2)
      omega
theorem isT_tall {A : T4} {N m t H : Nat} {g : Nat → Int32} {p : Int32} (hg : g 3 = nI H) (hH : H ≤ 10000) (hN : N ≤ 60) (hm : m ≤ 60) (ht : t < N) : isT (tallT A N m (g 0) (g 1) (g 2) (g 3) p) t (tallB g (nI m) p (nI t) (nI N)) := by
  unfold tallT tallB
  simp (disch := omega) only [ar_le, ar_eq, ar_lt]
  by_cases c1 : N ≤ m ∨ m = 0
  · rw [if_pos c1, if_pos c1]
    have := isT_st (A := A) (f := 0) hg hH hN ht
    rw [Nat.zero_add] at this
    exact this
  · rw [if_neg c1, if_neg c1, ← wid_eq]
    by_cases c2 : t < m
    · rw [if_pos c2]
      refine isT_sto ?_ (Or.inl c2)
      have := isT_st (A := A) (f := 0) (m := m) (g := kpL g (wid (g 2) p (nI 1))) (by simpa [kpL, upd] using hg) hH hm c2
      rw [Nat.zero_add] at this
      simpa [kpL, upd] using this
    · rw [if_neg c2]
      simp (disch := omega) only [ar_sub]
      have := isT_st (A := stT A 0 m (g 0) (g 1) (wid (g 2) p (nI 1)) (g 3) m) (f := m) (m := N - m) (t := t - m) (g := drL g (wid (g 2) p (nI 1))) (by simpa [drL, upd] using hg) hH (by omega) (by omega)
      rw [show m + (t - m) = t by omega] at this
      simpa [drL, upd] using this
theorem isT_mid {A : T4} {N m t H : Nat} {g : Nat → Int32} {p : Int32} (hg : g 3 = nI H) (hH : H ≤ 10000) (hN : N ≤ 60) (hm : m ≤ 60) (ht : t < N) : isT (midT A N m (g 0) (g 1) (g 2) (g 3) p) t (if nI 0 < nI m ∧ nI m + nI 1 < nI N ∧ nI 3 ≤ g 2 then middleB g (nI m) p (nI t) (nI N) else tallB g (nI m) p (nI t) (nI N)) := by
  unfold midT
  simp (disch := omega) only [ar_add, ar_lt]
  by_cases c1 : N ≤ m + 1 ∨ m = 0 ∨ g 2 < nI 3
  · have c2 : ¬ (0 < m ∧ m + 1 < N ∧ nI 3 ≤ g 2) := by
      intro q
      rcases c1 with z | z | z
      · omega
      · omega
      · exact absurd q.2.2 (by rw [Int32.not_le]; exact z)
    rw [if_pos c1, if_neg c2]
    exact isT_tall hg hH hN hm ht
  · have c2 : 0 < m ∧ m + 1 < N ∧ nI 3 ≤ g 2 := ⟨by omega, by omega, by rw [← Int32.not_lt]; exact fun q => c1 (Or.inr (Or.inr q))⟩
    have b1 : (N - m + 1) / 2 ≤ N - m := by omega
    rw [if_neg c1, if_pos c2]
    unfold middleB
    simp (disch := omega) only [← wid_eq, ar_lt, ar_sub, ar_add, ar_div]
    by_cases c3 : t < m
    · rw [if_pos c3]
      refine isT_sto (isT_sto ?_ (Or.inl c3)) (Or.inl (by omega))
      have := isT_st (A := A) (f := 0) (m := m) (g := kpL (drL g ((g 2 - wid (g 2) p (nI 2)) / nI 2)) (wid (g 2) p (nI 2))) (by simpa [kpL, drL, upd] using hg) hH hm c3
      rw [Nat.zero_add] at this
      simpa [kpL, drL, upd] using this
    · rw [if_neg c3]
      by_cases c4 : t < m + (N - m + 1) / 2
      · rw [if_pos c4]
        refine isT_sto ?_ (Or.inl c4)
        have := isT_st (A := stT A 0 m (g 0 + (g 2 - wid (g 2) p (nI 2)) / nI 2) (g 1) (wid (g 2) p (nI 2)) (g 3) m) (f := m) (m := (N - m + 1) / 2) (t := t - m) (g := drL g ((g 2 - wid (g 2) p (nI 2)) / nI 2 + wid (g 2) p (nI 2))) (by simpa [drL, upd] using hg) hH (by omega) (by omega)
        rw [show m + (t - m) = t by omega] at this
        have e : g 2 - ((g 2 - wid (g 2) p (nI 2)) / nI 2 + wid (g 2) p (nI 2)) = g 2 - (g 2 - wid (g 2) p (nI 2)) / nI 2 - wid (g 2) p (nI 2) := by rw [Int32.sub_sub]
        have e2 : g 0 + ((g 2 - wid (g 2) p (nI 2)) / nI 2 + wid (g 2) p (nI 2)) = g 0 + (g 2 - wid (g 2) p (nI 2)) / nI 2 + wid (g 2) p (nI 2) := by rw [Int32.add_assoc]
        simpa [drL, upd, e, e2] using this
      · rw [if_neg c4]
        try simp (disch := omega) only [ar_sub]
        have := isT_st (A := stT (stT A 0 m (g 0 + (g 2 - wid (g 2) p (nI 2)) / nI 2) (g 1) (wid (g 2) p (nI 2)) (g 3) m) m ((N - m + 1) / 2) (g 0 + (g 2 - wid (g 2) p (nI 2)) / nI 2 + wid (g 2) p (nI 2)) (g 1) (g 2 - (g 2 - wid (g 2) p (nI 2)) / nI 2 - wid (g 2) p (nI 2)) (g 3) ((N - m + 1) / 2)) (f := m + (N - m + 1) / 2) (m := N - m - (N - m + 1) / 2) (t := t - m - (N - m + 1) / 2) (g := kpL g ((g 2 - wid (g 2) p (nI 2)) / nI 2)) (by simpa [kpL, upd] using hg) hH (by omega) (by omega)
        rw [show m + (N - m + 1) / 2 + (t - m - (N - m + 1) / 2) = t by omega] at this
        simpa [kpL, upd] using this
