/-! GEOMETRY: boxes as numbers; the tiles of a layout don't overlap -/
theorem ti_add {a b : Int32} (h1 : -2147483648 ≤ a.toInt + b.toInt) (h2 : a.toInt + b.toInt < 2147483648) : (a + b).toInt = a.toInt + b.toInt := by
  rw [Int32.toInt_add, Int.bmod_def]
  omega
theorem ti_sub {a b : Int32} (h1 : -2147483648 ≤ a.toInt - b.toInt) (h2 : a.toInt - b.toInt < 2147483648) : (a - b).toInt = a.toInt - b.toInt := by
  rw [Int32.toInt_sub, Int.bmod_def]
  omega
theorem ti_lt (a b : Int32) : (a < b) = (a.toInt < b.toInt) := propext Int32.lt_iff_toInt_lt
theorem ti_le (a b : Int32) : (a ≤ b) = (a.toInt ≤ b.toInt) := propext Int32.le_iff_toInt_le
/-- a box within sight -/
def GB (g : Nat → Int32) : Prop := -10000 ≤ (g 0).toInt ∧ 0 ≤ (g 2).toInt ∧ (g 0).toInt + (g 2).toInt ≤ 40000 ∧ -10000 ≤ (g 1).toInt ∧ 0 ≤ (g 3).toInt ∧ (g 1).toInt + (g 3).toInt ≤ 40000 ∧ (g 2).toInt ≤ 10000 ∧ (g 3).toInt ≤ 10000
def inB (g : Nat → Int32) (x y : Int) : Prop := (g 0).toInt ≤ x ∧ x < (g 0).toInt + (g 2).toInt ∧ (g 1).toInt ≤ y ∧ y < (g 1).toInt + (g 3).toInt
theorem GB.holds {g : Nat → Int32} (h : GB g) (x y : Int32) : (bholds g x y = true) = inB g x.toInt y.toInt := by
  obtain ⟨h1, h2, h3, h4, h5, h6, h7, h8⟩ := h
  simp only [bholds, Bool.and_eq_true, decide_eq_true_eq, ti_le, ti_lt]
  rw [ti_add (by omega) (by omega), ti_add (by omega) (by omega)]
  exact propext ⟨fun ⟨a, b, c, d⟩ => ⟨a, c, b, d⟩, fun ⟨a, b, c, d⟩ => ⟨a, c, b, d⟩⟩
/-- g lies in g' -/
def subB (g g' : Nat → Int32) : Prop := (g' 0).toInt ≤ (g 0).toInt ∧ (g 0).toInt + (g 2).toInt ≤ (g' 0).toInt + (g' 2).toInt ∧ (g' 1).toInt ≤ (g 1).toInt ∧ (g 1).toInt + (g 3).toInt ≤ (g' 1).toInt + (g' 3).toInt ∧ 0 ≤ (g 2).toInt ∧ 0 ≤ (g 3).toInt ∧ (g 2).toInt ≤ (g' 2).toInt ∧ (g 3).toInt ≤ (g' 3).toInt
theorem GB.sub {g g' : Nat → Int32} (h : GB g') (s : subB g g') : GB g := by
  obtain ⟨h1, h2, h3, h4, h5, h6, h7, h8⟩ := h
  obtain ⟨s1, s2, s3, s4, s5, s6, s7, s8⟩ := s
  unfold GB
  omega
theorem subB.tr {a b c : Nat → Int32} (h : subB a b) (h' : subB b c) : subB a c := by
  unfold subB at *
  omega
theorem inB.sub {g g' : Nat → Int32} (s : subB g g') {x y : Int} (h : inB g x y) : inB g' x y := by
  unfold subB at s
  unfold inB at *
  omega
theorem subB.rf {g : Nat → Int32} (h : GB g) : subB g g := by
  unfold GB at h
  unfold subB
  omega
/-- a length of a good box is a small number -/
theorem GB.nw {g : Nat → Int32} (h : GB g) : ∃ W, W ≤ 10000 ∧ g 2 = nI W := by
  obtain ⟨h1, h2, h3, h4, h5, h6, h7, h8⟩ := h
  refine ⟨(g 2).toInt.toNat, by omega, ?_⟩
  apply Int32.toInt_inj.mp
  rw [nI_toInt (by omega)]
  omega
theorem GB.nh {g : Nat → Int32} (h : GB g) : ∃ W, W ≤ 10000 ∧ g 3 = nI W := by
  obtain ⟨h1, h2, h3, h4, h5, h6, h7, h8⟩ := h
  refine ⟨(g 3).toInt.toNat, by omega, ?_⟩
  apply Int32.toInt_inj.mp
  rw [nI_toInt (by omega)]
  omega
theorem eN_mono {H m j k : Nat} (hm : 1 ≤ m) (hjk : j ≤ k) (hk : k ≤ m) : eN H j m ≤ eN H k m := by
  induction hjk with
  | refl => exact Nat.le_refl _
  | @step k hjk ih =>
    have := (eN_step (H := H) hm (show k < m by omega)).1
    have h2 := ih (by omega)
    generalize (H - eN H k m) / (m - k) = z at this
    have h3 : eN H k.succ m = eN H (k + 1) m := rfl
    omega
theorem stk_n {g : Nat → Int32} {H m k : Nat} (hg : g 3 = nI H) (hH : H ≤ 10000) (hm2 : m ≤ 60) (hk : k < m) : stk g (nI k) (nI m) 0 = g 0 ∧ stk g (nI k) (nI m) 1 = g 1 + nI (eN H k m) ∧ stk g (nI k) (nI m) 2 = g 2 ∧ stk g (nI k) (nI m) 3 = nI (eN H (k + 1) m - eN H k m) := by
  have e1 := edg_nI hH (show 1 ≤ m by omega) hm2 (show k ≤ m by omega)
  have e2 := edg_nI hH (show 1 ≤ m by omega) hm2 (show k + 1 ≤ m by omega)
  have e3 := eN_mono (H := H) (show 1 ≤ m by omega) (show k ≤ k + 1 by omega) (by omega)
  simp only [stk, upd_at, hg, ar_add, e1, e2]
  simp
  rw [ar_sub e3]
theorem lnu_n {g : Nat → Int32} {H m k : Nat} (hg : g 2 = nI H) (hH : H ≤ 10000) (hm2 : m ≤ 60) (hk : k < m) : lnu g (nI k) (nI m) 0 = g 0 + nI (eN H k m) ∧ lnu g (nI k) (nI m) 1 = g 1 ∧ lnu g (nI k) (nI m) 2 = nI (eN H (k + 1) m - eN H k m) ∧ lnu g (nI k) (nI m) 3 = g 3 := by
  have e1 := edg_nI hH (show 1 ≤ m by omega) hm2 (show k ≤ m by omega)
  have e2 := edg_nI hH (show 1 ≤ m by omega) hm2 (show k + 1 ≤ m by omega)
  have e3 := eN_mono (H := H) (show 1 ≤ m by omega) (show k ≤ k + 1 by omega) (by omega)
  simp only [lnu, upd_at, hg, ar_add, e1, e2]
  simp
  rw [ar_sub e3]
theorem stk_i {g : Nat → Int32} (hG : GB g) {m k : Nat} (hm2 : m ≤ 60) (hk : k < m) : ∃ H, g 3 = nI H ∧ (stk g (nI k) (nI m) 0) = g 0 ∧ (stk g (nI k) (nI m) 1).toInt = (g 1).toInt + eN H k m ∧ stk g (nI k) (nI m) 2 = g 2 ∧ (stk g (nI k) (nI m) 3).toInt = (eN H (k + 1) m : Int) - eN H k m ∧ eN H k m ≤ eN H (k + 1) m ∧ eN H (k + 1) m ≤ H ∧ (g 3).toInt = H := by
  obtain ⟨H, hH, hg⟩ := hG.nh
  obtain ⟨a, b, c, d⟩ := stk_n hg hH hm2 hk
  have e3 := eN_mono (H := H) (show 1 ≤ m by omega) (show k ≤ k + 1 by omega) (by omega)
  have e4 := eN_le (H := H) (show 1 ≤ m by omega) (show k + 1 ≤ m by omega)
  obtain ⟨h1, h2, h3, h4, h5, h6, h7, h8⟩ := hG
  refine ⟨H, hg, a, ?_, c, ?_, e3, e4, ?_⟩
  · rw [b, ti_add (by rw [nI_toInt (by omega)]; omega) (by rw [nI_toInt (by omega)]; omega), nI_toInt (by omega)]
  · rw [d, nI_toInt (by omega)]; omega
  · rw [hg, nI_toInt (by omega)]
theorem lnu_i {g : Nat → Int32} (hG : GB g) {m k : Nat} (hm2 : m ≤ 60) (hk : k < m) : ∃ H, g 2 = nI H ∧ (lnu g (nI k) (nI m) 1) = g 1 ∧ (lnu g (nI k) (nI m) 0).toInt = (g 0).toInt + eN H k m ∧ lnu g (nI k) (nI m) 3 = g 3 ∧ (lnu g (nI k) (nI m) 2).toInt = (eN H (k + 1) m : Int) - eN H k m ∧ eN H k m ≤ eN H (k + 1) m ∧ eN H (k + 1) m ≤ H ∧ (g 2).toInt = H := by
  obtain ⟨H, hH, hg⟩ := hG.nw
  obtain ⟨a, b, c, d⟩ := lnu_n hg hH hm2 hk
  have e3 := eN_mono (H := H) (show 1 ≤ m by omega) (show k ≤ k + 1 by omega) (by omega)
  have e4 := eN_le (H := H) (show 1 ≤ m by omega) (show k + 1 ≤ m by omega)
  obtain ⟨h1, h2, h3, h4, h5, h6, h7, h8⟩ := hG
  refine ⟨H, hg, b, ?_, d, ?_, e3, e4, ?_⟩
  · rw [a, ti_add (by rw [nI_toInt (by omega)]; omega) (by rw [nI_toInt (by omega)]; omega), nI_toInt (by omega)]
  · rw [c, nI_toInt (by omega)]; omega
  · rw [hg, nI_toInt (by omega)]
theorem stk_sub {g : Nat → Int32} (hG : GB g) {m k : Nat} (hm2 : m ≤ 60) (hk : k < m) : subB (stk g (nI k) (nI m)) g := by
  obtain ⟨H, hg, a, b, c, d, e3, e4, e5⟩ := stk_i hG hm2 hk
  unfold subB
  rw [a, b, c, d]
  obtain ⟨h1, h2, h3, h4, h5, h6, h7, h8⟩ := hG
  omega
theorem lnu_sub {g : Nat → Int32} (hG : GB g) {m k : Nat} (hm2 : m ≤ 60) (hk : k < m) : subB (lnu g (nI k) (nI m)) g := by
  obtain ⟨H, hg, a, b, c, d, e3, e4, e5⟩ := lnu_i hG hm2 hk
  unfold subB
  rw [a, b, c, d]
  obtain ⟨h1, h2, h3, h4, h5, h6, h7, h8⟩ := hG
  omega
theorem stk_dj {g : Nat → Int32} (hG : GB g) {m j k : Nat} (hm2 : m ≤ 60) (hj : j < m) (hk : k < m) {x y : Int} (h1 : inB (stk g (nI j) (nI m)) x y) (h2 : inB (stk g (nI k) (nI m)) x y) : j = k := by
  obtain ⟨H, hg, a, b, c, d, e3, e4, e5⟩ := stk_i hG hm2 hj
  obtain ⟨H', hg', a', b', c', d', e3', e4', e5'⟩ := stk_i hG hm2 hk
  have : H' = H := by omega
  subst this
  unfold inB at h1 h2
  rw [b, d] at h1
  rw [b', d'] at h2
  rcases Nat.lt_trichotomy j k with q | q | q
  · have := eN_mono (H := H') (show 1 ≤ m by omega) (show j + 1 ≤ k by omega) (by omega)
    omega
  · exact q
  · have := eN_mono (H := H') (show 1 ≤ m by omega) (show k + 1 ≤ j by omega) (by omega)
    omega
theorem lnu_dj {g : Nat → Int32} (hG : GB g) {m j k : Nat} (hm2 : m ≤ 60) (hj : j < m) (hk : k < m) {x y : Int} (h1 : inB (lnu g (nI j) (nI m)) x y) (h2 : inB (lnu g (nI k) (nI m)) x y) : j = k := by
  obtain ⟨H, hg, a, b, c, d, e3, e4, e5⟩ := lnu_i hG hm2 hj
  obtain ⟨H', hg', a', b', c', d', e3', e4', e5'⟩ := lnu_i hG hm2 hk
  have : H' = H := by omega
  subst this
  unfold inB at h1 h2
  rw [b, d] at h1
  rw [b', d'] at h2
  rcases Nat.lt_trichotomy j k with q | q | q
  · have := eN_mono (H := H') (show 1 ≤ m by omega) (show j + 1 ≤ k by omega) (by omega)
    omega
  · exact q
  · have := eN_mono (H := H') (show 1 ≤ m by omega) (show k + 1 ≤ j by omega) (by omega)
    omega
theorem kpL_v (g : Nat → Int32) (w : Int32) : kpL g w 0 = g 0 ∧ kpL g w 1 = g 1 ∧ kpL g w 2 = w ∧ kpL g w 3 = g 3 := by simp [kpL, upd]
theorem drL_v (g : Nat → Int32) (w : Int32) : drL g w 0 = g 0 + w ∧ drL g w 1 = g 1 ∧ drL g w 2 = g 2 - w ∧ drL g w 3 = g 3 := by simp [drL, upd]
theorem tnB_v (g : Nat → Int32) : tnB g 0 = g 1 ∧ tnB g 1 = g 0 ∧ tnB g 2 = g 3 ∧ tnB g 3 = g 2 := by simp [tnB, bx4, upd]
theorem kpL_sub {g : Nat → Int32} (hG : GB g) {w : Int32} (h0 : 0 ≤ w.toInt) (h1 : w.toInt ≤ (g 2).toInt) : subB (kpL g w) g := by
  obtain ⟨a, b, c, d⟩ := kpL_v g w
  unfold subB
  rw [a, b, c, d]
  unfold GB at hG
  omega
theorem drL_i {g : Nat → Int32} (hG : GB g) {w : Int32} (h0 : 0 ≤ w.toInt) (h1 : w.toInt ≤ (g 2).toInt) : (drL g w 0).toInt = (g 0).toInt + w.toInt ∧ (drL g w 2).toInt = (g 2).toInt - w.toInt := by
  obtain ⟨a, b, c, d⟩ := drL_v g w
  unfold GB at hG
  rw [a, c, ti_add (by omega) (by omega), ti_sub (by omega) (by omega)]
  exact ⟨rfl, rfl⟩
theorem drL_sub {g : Nat → Int32} (hG : GB g) {w : Int32} (h0 : 0 ≤ w.toInt) (h1 : w.toInt ≤ (g 2).toInt) : subB (drL g w) g := by
  obtain ⟨a, b, c, d⟩ := drL_v g w
  obtain ⟨e1, e2⟩ := drL_i hG h0 h1
  unfold subB
  rw [e1, e2, b, d]
  unfold GB at hG
  omega
theorem kd_dj {g : Nat → Int32} (hG : GB g) {w : Int32} (h0 : 0 ≤ w.toInt) (h1 : w.toInt ≤ (g 2).toInt) {x y : Int} (q1 : inB (kpL g w) x y) (q2 : inB (drL g w) x y) : False := by
  obtain ⟨a, b, c, d⟩ := kpL_v g w
  obtain ⟨e1, e2⟩ := drL_i hG h0 h1
  unfold inB at q1 q2
  rw [a, c] at q1
  rw [e1, e2] at q2
  omega
theorem tnB_GB {g : Nat → Int32} (hG : GB g) : GB (tnB g) := by
  obtain ⟨a, b, c, d⟩ := tnB_v g
  unfold GB at *
  rw [a, b, c, d]
  omega
theorem tnB_in {g : Nat → Int32} {x y : Int} : inB (tnB g) x y ↔ inB g y x := by
  obtain ⟨a, b, c, d⟩ := tnB_v g
  unfold inB at *
  rw [a, b, c, d]
  omega
theorem tnB_sub {g g' : Nat → Int32} (h : subB g (tnB g')) : subB (tnB g) g' := by
  obtain ⟨a, b, c, d⟩ := tnB_v g'
  obtain ⟨a', b', c', d'⟩ := tnB_v g
  unfold subB at *
  rw [a, b, c, d] at h
  rw [a', b', c', d']
  omega
theorem mm_b {a b : Int32} : 1 ≤ (mxx (nI 1) (mn a b)).toInt ∧ ((mxx (nI 1) (mn a b)).toInt ≤ 1 ∨ (mxx (nI 1) (mn a b)).toInt ≤ b.toInt) := by
  have e1 : (nI 1).toInt = 1 := nI_toInt (by omega)
  simp only [mxx, mn, ti_lt, e1]
  by_cases c1 : b.toInt < a.toInt
  · simp only [c1, if_true]
    by_cases c2 : 1 < b.toInt
    · simp only [c2, if_true]; omega
    · simp only [c2, if_false, e1]; omega
  · simp only [c1, if_false]
    by_cases c2 : 1 < a.toInt
    · simp only [c2, if_true]; omega
    · simp only [c2, if_false, e1]; omega
theorem wd_b {w a : Int32} {l : Nat} (h1 : 1 ≤ w.toInt) (h2 : w.toInt ≤ 10000) (hl : l ≤ 2) : 1 ≤ (mxx (nI 1) (mn a (w - nI l))).toInt ∧ ((mxx (nI 1) (mn a (w - nI l))).toInt ≤ 1 ∨ (mxx (nI 1) (mn a (w - nI l))).toInt ≤ w.toInt - l) := by
  have e1 : (nI l).toInt = l := nI_toInt (by omega)
  have := mm_b (a := a) (b := w - nI l)
  rw [ti_sub (a := w) (by rw [e1]; omega) (by rw [e1]; omega), e1] at this
  exact this
theorem tall_sub {g : Nat → Int32} (hG : GB g) (hw : 1 ≤ (g 2).toInt) {m k n : Nat} {p : Int32} (hm : m ≤ 60) (hn : n ≤ 60) (hk : k < n) : subB (tallB g (nI m) p (nI k) (nI n)) g := by
  have hb := wd_b (w := g 2) (a := g 2 * p / nI 1000) (l := 1) hw hG.2.2.2.2.2.2.1 (by omega)
  unfold tallB
  generalize mxx (nI 1) (mn (g 2 * p / nI 1000) (g 2 - nI 1)) = L at hb ⊢
  have q1 : 0 ≤ L.toInt := by omega
  have q2 : L.toInt ≤ (g 2).toInt := by omega
  simp (disch := omega) only [ar_le, ar_eq, ar_lt]
  split
  · exact stk_sub hG hn hk
  · split
    · rename_i c2
      exact (stk_sub (hG.sub (kpL_sub hG q1 q2)) hm c2).tr (kpL_sub hG q1 q2)
    · simp (disch := omega) only [ar_sub]
      exact (stk_sub (hG.sub (drL_sub hG q1 q2)) (by omega) (by omega)).tr (drL_sub hG q1 q2)
theorem tall_dj {g : Nat → Int32} (hG : GB g) (hw : 1 ≤ (g 2).toInt) {m j k n : Nat} {p : Int32} (hm : m ≤ 60) (hn : n ≤ 60) (hj : j < n) (hk : k < n) {x y : Int} (i1 : inB (tallB g (nI m) p (nI j) (nI n)) x y) (i2 : inB (tallB g (nI m) p (nI k) (nI n)) x y) : j = k := by
  have hb := wd_b (w := g 2) (a := g 2 * p / nI 1000) (l := 1) hw hG.2.2.2.2.2.2.1 (by omega)
  unfold tallB at i1 i2
  generalize mxx (nI 1) (mn (g 2 * p / nI 1000) (g 2 - nI 1)) = L at hb i1 i2
  have q1 : 0 ≤ L.toInt := by omega
  have q2 : L.toInt ≤ (g 2).toInt := by omega
  simp (disch := omega) only [ar_le, ar_eq, ar_lt] at i1 i2
  have gk := hG.sub (kpL_sub hG q1 q2)
  have gd := hG.sub (drL_sub hG q1 q2)
  by_cases c1 : n ≤ m ∨ m = 0
  · rw [if_pos c1] at i1 i2
    exact stk_dj hG hn hj hk i1 i2
  · rw [if_neg c1] at i1 i2
    by_cases c2 : j < m
    · rw [if_pos c2] at i1
      by_cases c3 : k < m
      · rw [if_pos c3] at i2
        exact stk_dj gk hm c2 c3 i1 i2
      · rw [if_neg c3] at i2
        simp (disch := omega) only [ar_sub] at i2
        exact (kd_dj hG q1 q2 (i1.sub (stk_sub gk hm c2)) (i2.sub (stk_sub gd (by omega) (by omega)))).elim
    · rw [if_neg c2] at i1
      simp (disch := omega) only [ar_sub] at i1
      by_cases c3 : k < m
      · rw [if_pos c3] at i2
        exact (kd_dj hG q1 q2 (i2.sub (stk_sub gk hm c3)) (i1.sub (stk_sub gd (by omega) (by omega)))).elim
      · rw [if_neg c3] at i2
        simp (disch := omega) only [ar_sub] at i2
        have := stk_dj gd (by omega) (show j - m < n - m by omega) (show k - m < n - m by omega) i1 i2
        omega
theorem mid_n {g : Nat → Int32} (hG : GB g) (hw : 3 ≤ (g 2).toInt) (a : Int32) : ∃ W Mn, g 2 = nI W ∧ (g 2).toInt = W ∧ mxx (nI 1) (mn a (g 2 - nI 2)) = nI Mn ∧ 1 ≤ Mn ∧ Mn + 2 ≤ W ∧ W ≤ 10000 := by
  obtain ⟨W, hW, hg⟩ := hG.nw
  have hb := wd_b (w := g 2) (a := a) (l := 2) (by omega) hG.2.2.2.2.2.2.1 (by omega)
  have e1 : (g 2).toInt = W := by rw [hg, nI_toInt (by omega)]
  refine ⟨W, (mxx (nI 1) (mn a (g 2 - nI 2))).toInt.toNat, hg, e1, ?_, by omega, by omega, hW⟩
  apply Int32.toInt_inj.mp
  rw [nI_toInt (by omega)]
  omega
theorem middle_sd {g : Nat → Int32} (hG : GB g) (hw : 3 ≤ (g 2).toInt) {m n : Nat} {p : Int32} (hm0 : 0 < m) (hm : m + 1 < n) (hn : n ≤ 60) : (∀ k, k < n → subB (middleB g (nI m) p (nI k) (nI n)) g) ∧ ∀ j k x y, j < n → k < n → inB (middleB g (nI m) p (nI j) (nI n)) x y → inB (middleB g (nI m) p (nI k) (nI n)) x y → j = k := by
  obtain ⟨W, Mn, e1, e2, e3, h1, h2, h3⟩ := mid_n hG hw (g 2 * p / nI 1000)
  have key : ∀ k, k < n → middleB g (nI m) p (nI k) (nI n) = (if k < m then stk (kpL (drL g (nI ((W - Mn) / 2))) (nI Mn)) (nI k) (nI m) else if k < m + (n - m + 1) / 2 then stk (drL g (nI ((W - Mn) / 2 + Mn))) (nI (k - m)) (nI ((n - m + 1) / 2)) else stk (kpL g (nI ((W - Mn) / 2))) (nI (k - m - (n - m + 1) / 2)) (nI (n - m - (n - m + 1) / 2))) := by
    intro k hk
    unfold middleB
    rw [e3, e1]
    simp (disch := omega) only [ar_lt, ar_sub, ar_add, ar_div]
  have t1 : (nI ((W - Mn) / 2)).toInt = ((W - Mn) / 2 : Nat) := nI_toInt (by omega)
  have t2 : (nI ((W - Mn) / 2 + Mn)).toInt = ((W - Mn) / 2 + Mn : Nat) := nI_toInt (by omega)
  have t3 : (nI Mn).toInt = Mn := nI_toInt (by omega)
  generalize hL : (W - Mn) / 2 = L at *
  have sA := drL_sub hG (w := nI L) (by omega) (by omega)
  have gA := hG.sub sA
  have dA := drL_i hG (w := nI L) (by omega) (by omega)
  have sA2 := kpL_sub gA (w := nI Mn) (by omega) (by omega)
  have gA2 := gA.sub sA2
  have sB := drL_sub hG (w := nI (L + Mn)) (by omega) (by omega)
  have gB := hG.sub sB
  have dB := drL_i hG (w := nI (L + Mn)) (by omega) (by omega)
  have sC := kpL_sub hG (w := nI L) (by omega) (by omega)
  have gC := hG.sub sC
  have vA := kpL_v (drL g (nI L)) (nI Mn)
  have vC := kpL_v g (nI L)
  constructor
  · intro k hk
    rw [key k hk]
    split
    · rename_i c
      exact ((stk_sub gA2 (by omega) c).tr sA2).tr sA
    · split
      · exact (stk_sub gB (by omega) (by omega)).tr sB
      · exact (stk_sub gC (by omega) (by omega)).tr sC
  · intro j k x y hj hk i1 i2
    rw [key j hj] at i1
    rw [key k hk] at i2
    have AB : inB (kpL (drL g (nI L)) (nI Mn)) x y → inB (drL g (nI (L + Mn))) x y → False := by
      intro a b
      unfold inB at a b
      rw [vA.1, vA.2.2.1, t3, dA.1, t1] at a
      rw [dB.1, t2] at b
      omega
    have AC : inB (kpL (drL g (nI L)) (nI Mn)) x y → inB (kpL g (nI L)) x y → False := by
      intro a b
      unfold inB at a b
      rw [vA.1, vA.2.2.1, t3, dA.1, t1] at a
      rw [vC.1, vC.2.2.1, t1] at b
      omega
    have BC : inB (drL g (nI (L + Mn))) x y → inB (kpL g (nI L)) x y → False := by
      intro a b
      unfold inB at a b
      rw [dB.1, t2] at a
      rw [vC.1, vC.2.2.1, t1] at b
      omega
    by_cases a1 : j < m
    · rw [if_pos a1] at i1
      have j1 := i1.sub (stk_sub gA2 (by omega) a1)
      by_cases a2 : k < m
      · rw [if_pos a2] at i2
        exact stk_dj gA2 (by omega) a1 a2 i1 i2
      · rw [if_neg a2] at i2
        by_cases a3 : k < m + (n - m + 1) / 2
        · rw [if_pos a3] at i2
          exact (AB j1 (i2.sub (stk_sub gB (by omega) (by omega)))).elim
        · rw [if_neg a3] at i2
          exact (AC j1 (i2.sub (stk_sub gC (by omega) (by omega)))).elim
    · rw [if_neg a1] at i1
      by_cases b1 : j < m + (n - m + 1) / 2
      · rw [if_pos b1] at i1
        have j1 := i1.sub (stk_sub gB (by omega) (by omega))
        by_cases a2 : k < m
        · rw [if_pos a2] at i2
          exact (AB (i2.sub (stk_sub gA2 (by omega) a2)) j1).elim
        · rw [if_neg a2] at i2
          by_cases a3 : k < m + (n - m + 1) / 2
          · rw [if_pos a3] at i2
            have := stk_dj gB (by omega) (by omega) (by omega) i1 i2
            omega
          · rw [if_neg a3] at i2
            exact (BC j1 (i2.sub (stk_sub gC (by omega) (by omega)))).elim
      · rw [if_neg b1] at i1
        have j1 := i1.sub (stk_sub gC (by omega) (by omega))
        by_cases a2 : k < m
        · rw [if_pos a2] at i2
          exact (AC (i2.sub (stk_sub gA2 (by omega) a2)) j1).elim
        · rw [if_neg a2] at i2
          by_cases a3 : k < m + (n - m + 1) / 2
          · rw [if_pos a3] at i2
            exact (BC (i2.sub (stk_sub gB (by omega) (by omega))) j1).elim
          · rw [if_neg a3] at i2
            have := stk_dj gC (by omega) (by omega) (by omega) i1 i2
            omega
theorem grid_col {g : Nat → Int32} {t N c : Nat} (hc1 : 1 ≤ c) (ht : t < N) : ∀ (m i : Nat), i + m = c → i * N / c ≤ t → ∃ i', i' < c ∧ i' * N / c ≤ t ∧ t < (i' + 1) * N / c ∧ gridL g t N c m i = stk (lnu g (nI i') (nI c)) (nI (t - i' * N / c)) (nI ((i' + 1) * N / c - i' * N / c)) := by
  intro m
  induction m with
  | zero =>
    intro i hi hit
    have : i = c := by omega
    subst this
    rw [Nat.mul_div_cancel_left N (by omega)] at hit
    omega
  | succ m ih =>
    intro i hi hit
    rw [gridL]
    by_cases c1 : t < (i + 1) * N / c
    · rw [if_pos ⟨hit, c1⟩]
      exact ⟨i, by omega, hit, c1, rfl⟩
    · rw [if_neg (fun q => c1 q.2)]
      exact ih (i + 1) (by omega) (by omega)
theorem grid_sd {g : Nat → Int32} (hG : GB g) {N : Nat} (hN : N ≤ 60) : (∀ k, k < N → subB (gridB g k N) g) ∧ ∀ j k x y, j < N → k < N → inB (gridB g j N) x y → inB (gridB g k N) x y → j = k := by
  obtain ⟨p1, p2⟩ := gcol_pos N 60 1 (by decide) (by decide)
  have key : ∀ k, k < N → ∃ i', i' < gcol N 60 1 ∧ i' * N / gcol N 60 1 ≤ k ∧ k < (i' + 1) * N / gcol N 60 1 ∧ gridB g k N = stk (lnu g (nI i') (nI (gcol N 60 1))) (nI (k - i' * N / gcol N 60 1)) (nI ((i' + 1) * N / gcol N 60 1 - i' * N / gcol N 60 1)) := fun k hk => grid_col p1 hk _ 0 (by omega) (by simp)
  generalize gcol N 60 1 = c at *
  have key2 : ∀ k, k < N → ∃ i a z, i < c ∧ a < z ∧ z ≤ 60 ∧ a ≤ 60 ∧ gridB g k N = stk (lnu g (nI i) (nI c)) (nI a) (nI z) ∧ a = k - i * N / c ∧ i * N / c ≤ k ∧ z = (i + 1) * N / c - i * N / c := fun k hk => by
    obtain ⟨i, hi, h1, h2, e⟩ := key k hk
    have b : (i + 1) * N / c ≤ 60 := Nat.le_trans (Nat.div_le_of_le_mul (Nat.mul_le_mul_right N (by omega))) hN
    exact ⟨i, _, _, hi, Nat.sub_lt_sub_right h1 h2, Nat.le_trans (Nat.sub_le _ _) b, Nat.le_trans (Nat.sub_le _ _) (by omega), e, rfl, h1, rfl⟩
  constructor
  · intro k hk
    obtain ⟨i, a, z, hi, h1, h2, h3, e, -⟩ := key2 k hk
    rw [e]
    exact (stk_sub (hG.sub (lnu_sub hG p2 hi)) h2 h1).tr (lnu_sub hG p2 hi)
  · intro j k x y hj hk i1 i2
    obtain ⟨i, a, z, hi, h1, h2, h3, e, h4, h5, h6⟩ := key2 j hj
    obtain ⟨i', a', z', hi', h1', h2', h3', e', h4', h5', h6'⟩ := key2 k hk
    rw [e] at i1
    rw [e'] at i2
    have g1 := hG.sub (lnu_sub hG p2 hi)
    have g2 := hG.sub (lnu_sub hG p2 hi')
    have : i = i' := lnu_dj hG p2 hi hi' (i1.sub (stk_sub g1 h2 h1)) (i2.sub (stk_sub g2 h2' h1'))
    subst this
    have : z = z' := h6.trans h6'.symm
    subst this
    have := stk_dj g1 h2 h1 h1' i1 i2
    generalize i * N / c = q at *
    omega
theorem half_b {g : Nat → Int32} (hG : GB g) {n : Nat} (hn1 : 1 < n) (hn : n ≤ 60) : 0 ≤ (g 2 * nI ((n + 1) / 2) / nI n).toInt ∧ (g 2 * nI ((n + 1) / 2) / nI n).toInt ≤ (g 2).toInt := by
  obtain ⟨W, hW, hg⟩ := hG.nw
  have hm : W * ((n + 1) / 2) ≤ W * n := Nat.mul_le_mul_left W (by omega)
  have hm2 : W * n ≤ 10000 * 60 := Nat.mul_le_mul hW hn
  have hd : W * ((n + 1) / 2) / n ≤ W := Nat.div_le_of_le_mul (by rw [Nat.mul_comm n W]; exact hm)
  rw [hg, ar_mul, ar_div (by omega) (by omega) (by omega), nI_toInt (by omega), nI_toInt (by omega)]
  generalize W * ((n + 1) / 2) / n = z at hd
  omega
theorem bal_sd : ∀ (f : Nat) {g : Nat → Int32} {n : Nat}, GB g → n ≤ 60 → n ≤ f + 1 → (∀ k, k < n → subB (balB f g k n) g) ∧ ∀ j k x y, j < n → k < n → inB (balB f g j n) x y → inB (balB f g k n) x y → j = k := by
  intro f
  induction f with
  | zero =>
    intro g n hG hn hf
    exact ⟨fun k hk => subB.rf hG, fun j k x y hj hk _ _ => by omega⟩
  | succ f ih =>
    intro g n hG hn hf
    by_cases c1 : 1 < n
    · have gT := tnB_GB hG
      by_cases c2 : g 2 < g 3
      · obtain ⟨q1, q2⟩ := half_b gT c1 hn
        have key : ∀ k, balB (f + 1) g k n = (if k < (n + 1) / 2 then balB f (tnB (kpL (tnB g) (tnB g 2 * nI ((n + 1) / 2) / nI n))) k ((n + 1) / 2) else balB f (tnB (drL (tnB g) (tnB g 2 * nI ((n + 1) / 2) / nI n))) (k - (n + 1) / 2) (n - (n + 1) / 2)) := fun k => by
          rw [balB, if_pos c1, if_pos c2]
        generalize tnB g 2 * nI ((n + 1) / 2) / nI n = L at *
        have sA : subB (tnB (kpL (tnB g) L)) g := tnB_sub (kpL_sub gT q1 q2)
        have sB : subB (tnB (drL (tnB g) L)) g := tnB_sub (drL_sub gT q1 q2)
        have A := ih (n := (n + 1) / 2) (hG.sub sA) (by omega) (by omega)
        have B := ih (n := n - (n + 1) / 2) (hG.sub sB) (by omega) (by omega)
        have dj : ∀ x y, inB (tnB (kpL (tnB g) L)) x y → inB (tnB (drL (tnB g) L)) x y → False := fun x y a b => kd_dj gT q1 q2 (tnB_in.mp a) (tnB_in.mp b)
        constructor
        · intro k hk
          rw [key]
          split
          · exact (A.1 k (by omega)).tr sA
          · exact (B.1 _ (by omega)).tr sB
        · intro j k x y hj hk i1 i2
          rw [key] at i1 i2
          by_cases a1 : j < (n + 1) / 2
          · rw [if_pos a1] at i1
            by_cases a2 : k < (n + 1) / 2
            · rw [if_pos a2] at i2
              exact A.2 j k x y a1 a2 i1 i2
            · rw [if_neg a2] at i2
              exact (dj x y (i1.sub (A.1 _ a1)) (i2.sub (B.1 _ (by omega)))).elim
          · rw [if_neg a1] at i1
            by_cases a2 : k < (n + 1) / 2
            · rw [if_pos a2] at i2
              exact (dj x y (i2.sub (A.1 _ a2)) (i1.sub (B.1 _ (by omega)))).elim
            · rw [if_neg a2] at i2
              have := B.2 _ _ x y (by omega) (by omega) i1 i2
              omega
      · obtain ⟨q1, q2⟩ := half_b hG c1 hn
        have key : ∀ k, balB (f + 1) g k n = (if k < (n + 1) / 2 then balB f (kpL g (g 2 * nI ((n + 1) / 2) / nI n)) k ((n + 1) / 2) else balB f (drL g (g 2 * nI ((n + 1) / 2) / nI n)) (k - (n + 1) / 2) (n - (n + 1) / 2)) := fun k => by
          rw [balB, if_pos c1, if_neg c2]
        generalize g 2 * nI ((n + 1) / 2) / nI n = L at *
        have sA : subB (kpL g L) g := kpL_sub hG q1 q2
        have sB : subB (drL g L) g := drL_sub hG q1 q2
        have A := ih (n := (n + 1) / 2) (hG.sub sA) (by omega) (by omega)
        have B := ih (n := n - (n + 1) / 2) (hG.sub sB) (by omega) (by omega)
        have dj : ∀ x y, inB (kpL g L) x y → inB (drL g L) x y → False := fun x y a b => kd_dj hG q1 q2 a b
        constructor
        · intro k hk
          rw [key]
          split
          · exact (A.1 k (by omega)).tr sA
          · exact (B.1 _ (by omega)).tr sB
        · intro j k x y hj hk i1 i2
          rw [key] at i1 i2
          by_cases a1 : j < (n + 1) / 2
          · rw [if_pos a1] at i1
            by_cases a2 : k < (n + 1) / 2
            · rw [if_pos a2] at i2
              exact A.2 j k x y a1 a2 i1 i2
            · rw [if_neg a2] at i2
              exact (dj x y (i1.sub (A.1 _ a1)) (i2.sub (B.1 _ (by omega)))).elim
          · rw [if_neg a1] at i1
            by_cases a2 : k < (n + 1) / 2
            · rw [if_pos a2] at i2
              exact (dj x y (i2.sub (A.1 _ a2)) (i1.sub (B.1 _ (by omega)))).elim
            · rw [if_neg a2] at i2
              have := B.2 _ _ x y (by omega) (by omega) i1 i2
              omega
    · have key : ∀ k, balB (f + 1) g k n = g := fun k => by rw [balB, if_neg c1]
      exact ⟨fun k hk => by rw [key]; exact subB.rf hG, fun j k x y hj hk _ _ => by omega⟩
/-- the tiles of a layout lie in the screen and don't overlap -/
theorem nar_sd {g : Nat → Int32} (hG : GB g) (hw : 1 ≤ (g 2).toInt) (hh : 1 ≤ (g 3).toInt) {κ m n : Nat} {p : Int32} (hκ : κ < 6) (hκ2 : κ ≠ 2) (hm : m ≤ 60) (hn : n ≤ 60) : (∀ k, k < n → subB (narB g (nI κ) (nI m) p k n) g) ∧ ∀ j k x y, j < n → k < n → inB (narB g (nI κ) (nI m) p j n) x y → inB (narB g (nI κ) (nI m) p k n) x y → j = k := by
  have hκ6 : κ = 0 ∨ κ = 1 ∨ κ = 3 ∨ κ = 4 ∨ κ = 5 := by omega
  rcases hκ6 with rfl | rfl | rfl | rfl | rfl
  · have e : ∀ k, narB g (nI 0) (nI m) p k n = tallB g (nI m) p (nI k) (nI n) := fun k => by simp (disch := omega) only [narB, ar_eq, if_true, if_false, ite_true, ite_false, not_true_eq_false, not_false_eq_true, true_or, or_true, false_or, or_false, and_self, ok_n0, ok_ni, ok_nr, ok_nl, va_rf_some, va_rf_none, true_and, and_true, List.length_nil, List.length_cons, Option.toList_some, Option.toList_none, List.cons_append, List.nil_append, rK_uA, rK_uI, rK_uJ, rK_uP, rP_uA, rP_uI, rP_uJ, rJ_uA, rJ_uI, rJ_uP, rI_uJ, rI_uP, rz_uA, rz_uI, rz_uJ, rz_uP, rs_uA, rs_uI, rs_uJ, rs_uP, Nat.reduceAdd, Nat.reduceMul, Nat.reduceSub, Nat.reduceLeDiff, Nat.reduceLT, Nat.reduceEqDiff, Nat.add_zero, Nat.zero_add, Nat.zero_le]
    exact ⟨fun k hk => by rw [e]; exact tall_sub hG hw hm hn hk, fun j k x y hj hk a b => by rw [e] at a b; exact tall_dj hG hw hm hn hj hk a b⟩
  · have e : ∀ k, narB g (nI 1) (nI m) p k n = tnB (tallB (tnB g) (nI m) p (nI k) (nI n)) := fun k => by simp (disch := omega) only [narB, ar_eq, if_true, if_false, ite_true, ite_false, not_true_eq_false, not_false_eq_true, true_or, or_true, false_or, or_false, and_self, ok_n0, ok_ni, ok_nr, ok_nl, va_rf_some, va_rf_none, true_and, and_true, List.length_nil, List.length_cons, Option.toList_some, Option.toList_none, List.cons_append, List.nil_append, rK_uA, rK_uI, rK_uJ, rK_uP, rP_uA, rP_uI, rP_uJ, rJ_uA, rJ_uI, rJ_uP, rI_uJ, rI_uP, rz_uA, rz_uI, rz_uJ, rz_uP, rs_uA, rs_uI, rs_uJ, rs_uP, Nat.reduceAdd, Nat.reduceMul, Nat.reduceSub, Nat.reduceLeDiff, Nat.reduceLT, Nat.reduceEqDiff, Nat.add_zero, Nat.zero_add, Nat.zero_le]
    have gT := tnB_GB hG
    have hT : 1 ≤ (tnB g 2).toInt := by rw [(tnB_v g).2.2.1]; exact hh
    exact ⟨fun k hk => by rw [e]; exact tnB_sub (tall_sub gT hT hm hn hk), fun j k x y hj hk a b => by rw [e] at a b; exact tall_dj gT hT hm hn hj hk (tnB_in.mp a) (tnB_in.mp b)⟩
  · have e : ∀ k, narB g (nI 3) (nI m) p k n = gridB g k n := fun k => by simp (disch := omega) only [narB, ar_eq, if_true, if_false, ite_true, ite_false, not_true_eq_false, not_false_eq_true, true_or, or_true, false_or, or_false, and_self, ok_n0, ok_ni, ok_nr, ok_nl, va_rf_some, va_rf_none, true_and, and_true, List.length_nil, List.length_cons, Option.toList_some, Option.toList_none, List.cons_append, List.nil_append, rK_uA, rK_uI, rK_uJ, rK_uP, rP_uA, rP_uI, rP_uJ, rJ_uA, rJ_uI, rJ_uP, rI_uJ, rI_uP, rz_uA, rz_uI, rz_uJ, rz_uP, rs_uA, rs_uI, rs_uJ, rs_uP, Nat.reduceAdd, Nat.reduceMul, Nat.reduceSub, Nat.reduceLeDiff, Nat.reduceLT, Nat.reduceEqDiff, Nat.add_zero, Nat.zero_add, Nat.zero_le]
    exact ⟨fun k hk => by rw [e]; exact (grid_sd hG hn).1 k hk, fun j k x y hj hk a b => by rw [e] at a b; exact (grid_sd hG hn).2 j k x y hj hk a b⟩
  · have e : ∀ k, narB g (nI 4) (nI m) p k n = balB 60 g k n := fun k => by simp (disch := omega) only [narB, ar_eq, if_true, if_false, ite_true, ite_false, not_true_eq_false, not_false_eq_true, true_or, or_true, false_or, or_false, and_self, ok_n0, ok_ni, ok_nr, ok_nl, va_rf_some, va_rf_none, true_and, and_true, List.length_nil, List.length_cons, Option.toList_some, Option.toList_none, List.cons_append, List.nil_append, rK_uA, rK_uI, rK_uJ, rK_uP, rP_uA, rP_uI, rP_uJ, rJ_uA, rJ_uI, rJ_uP, rI_uJ, rI_uP, rz_uA, rz_uI, rz_uJ, rz_uP, rs_uA, rs_uI, rs_uJ, rs_uP, Nat.reduceAdd, Nat.reduceMul, Nat.reduceSub, Nat.reduceLeDiff, Nat.reduceLT, Nat.reduceEqDiff, Nat.add_zero, Nat.zero_add, Nat.zero_le]
    exact ⟨fun k hk => by rw [e]; exact (bal_sd 60 hG hn (by omega)).1 k hk, fun j k x y hj hk a b => by rw [e] at a b; exact (bal_sd 60 hG hn (by omega)).2 j k x y hj hk a b⟩
  · have e : ∀ k, narB g (nI 5) (nI m) p k n = (if nI 0 < nI m ∧ nI m + nI 1 < nI n ∧ nI 3 ≤ g 2 then middleB g (nI m) p (nI k) (nI n) else tallB g (nI m) p (nI k) (nI n)) := fun k => by simp (disch := omega) only [narB, ar_eq, if_true, if_false, ite_true, ite_false, not_true_eq_false, not_false_eq_true, true_or, or_true, false_or, or_false, and_self, ok_n0, ok_ni, ok_nr, ok_nl, va_rf_some, va_rf_none, true_and, and_true, List.length_nil, List.length_cons, Option.toList_some, Option.toList_none, List.cons_append, List.nil_append, rK_uA, rK_uI, rK_uJ, rK_uP, rP_uA, rP_uI, rP_uJ, rJ_uA, rJ_uI, rJ_uP, rI_uJ, rI_uP, rz_uA, rz_uI, rz_uJ, rz_uP, rs_uA, rs_uI, rs_uJ, rs_uP, Nat.reduceAdd, Nat.reduceMul, Nat.reduceSub, Nat.reduceLeDiff, Nat.reduceLT, Nat.reduceEqDiff, Nat.add_zero, Nat.zero_add, Nat.zero_le]
    simp (disch := omega) only [ar_add, ar_lt] at e
    by_cases c1 : 0 < m ∧ m + 1 < n ∧ nI 3 ≤ g 2
    · have h3 : 3 ≤ (g 2).toInt := by
        have := c1.2.2
        rw [ti_le, nI_toInt (by omega)] at this
        exact this
      have := middle_sd (p := p) hG h3 c1.1 c1.2.1 hn
      exact ⟨fun k hk => by rw [e, if_pos c1]; exact this.1 k hk, fun j k x y hj hk a b => by rw [e, if_pos c1] at a b; exact this.2 j k x y hj hk a b⟩
    · exact ⟨fun k hk => by rw [e, if_neg c1]; exact tall_sub hG hw hm hn hk, fun j k x y hj hk a b => by rw [e, if_neg c1] at a b; exact tall_dj hG hw hm hn hj hk a b⟩
