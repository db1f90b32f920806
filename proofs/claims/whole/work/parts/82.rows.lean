/-! ROWS: what may be done to them -/
theorem sumN_cg {C C' : Nat → Nat} : ∀ m, (∀ k, k < m → C' k = C k) → sumN C' m = sumN C m := by
  intro m
  induction m with
  | zero => intro _; rfl
  | succ m ih => intro h; rw [sumN, sumN, ih (fun k hk => h k (by omega)), h m (by omega)]
theorem sumN_1 {C C' : Nat → Nat} {j : Nat} : ∀ m, j < m → C' j = C j + 1 → (∀ k, k < m → ¬ k = j → C' k = C k) → sumN C' m = sumN C m + 1 := by
  intro m
  induction m with
  | zero => intro h; omega
  | succ m ih =>
    intro h h1 h2
    rw [sumN, sumN]
    by_cases e : j = m
    · subst e
      rw [h1, sumN_cg j (fun k hk => h2 k (by omega) (by omega))]; omega
    · rw [ih (by omega) h1 (fun k hk hn => h2 k (by omega) hn), h2 m (by omega) (by omega)]; omega
theorem sumN_le {C : Nat → Nat} {j : Nat} : ∀ m, j < m → C j ≤ sumN C m := by
  intro m
  induction m with
  | zero => intro h; omega
  | succ m ih =>
    intro h
    rw [sumN]
    by_cases e : j = m
    · subst e; omega
    · have := ih (by omega); omega
theorem cntB_1 {f g : Nat → Bool} {j : Nat} : ∀ m, j < m → f j = false → g j = true → (∀ k, k < m → ¬ k = j → g k = f k) → cntB g m = cntB f m + 1 := by
  intro m
  induction m with
  | zero => intro h; omega
  | succ m ih =>
    intro h h0 h1 h2
    rw [cntB, cntB]
    by_cases e : j = m
    · subst e
      rw [h0, h1, cntB_cg j (fun k hk => h2 k (by omega) (by omega))]; simp
    · rw [ih (by omega) h0 h1 (fun k hk hn => h2 k (by omega) hn), h2 m (by omega) (by omega)]; omega
theorem cntB_le {f : Nat → Bool} : ∀ m, cntB f m ≤ m := by
  intro m
  induction m with
  | zero => exact Nat.le_refl _
  | succ m ih => rw [cntB]; split <;> omega
theorem cntB_lt {f : Nat → Bool} {j : Nat} : ∀ m, j < m → f j = false → cntB f m < m := by
  intro m
  induction m with
  | zero => intro h; omega
  | succ m ih =>
    intro h h0
    rw [cntB]
    by_cases e : j = m
    · subst e
      have := cntB_le (f := f) j
      rw [h0]; simp; omega
    · have := ih (by omega) h0
      split <;> omega
section ROWS
variable {v v' : Nat → Int32} {n : Nat} {C H P : Nat → Nat} {h h' : pm_H} {d : Nat}
theorem RI.perm (q : RI v C H P) {i : Nat} (hi : i < 9) (ho : ∀ e, 35 ≤ e → e < 980 → (e < 35 + 65 * i ∨ 35 + 65 * i + 65 ≤ e) → v' e = v e) (k1 : ∃ κ, κ < 6 ∧ v' (35 + 65 * i) = nI κ) (k2 : ∃ m, m ≤ 60 ∧ v' (35 + 65 * i + 1) = nI m) (k3 : ∃ q, q ≤ 1000 ∧ v' (35 + 65 * i + 2) = nI q) (k4 : v' (35 + 65 * i + 3) = v (35 + 65 * i + 3)) (k5 : (C i = 0 ∧ v' (35 + 65 * i + 4) = -1) ∨ ∃ f, f < C i ∧ v' (35 + 65 * i + 4) = nI f) {σ τ : Nat → Nat} (pi : PI (C i) σ τ) (k6 : ∀ k, k < C i → v' (35 + 65 * i + 5 + k) = v (35 + 65 * i + 5 + σ k)) (k7 : ∀ k, C i ≤ k → k < 60 → v' (35 + 65 * i + 5 + k) = v (35 + 65 * i + 5 + k)) : RI v' C H (fun w => if H w = i then τ (P w) else P w) := by
  have hc := q.c60 i hi
  have e6 : ∀ w0 x, w0 < 60 → x < 6 → v' (620 + 6 * w0 + x) = v (620 + 6 * w0 + x) := fun w0 x h1 h2 => ho _ (by omega) (by omega) (by omega)
  have e60 : ∀ w0, w0 < 60 → v' (620 + 6 * w0) = v (620 + 6 * w0) := fun w0 h1 => ho _ (by omega) (by omega) (by omega)
  have er : ∀ j x, j < 9 → ¬ j = i → x < 65 → v' (35 + 65 * j + x) = v (35 + 65 * j + x) := fun j x h1 h2 h3 => ho _ (by omega) (by omega) (by omega)
  have ew : ∀ k, k < C i → wV v' i k = wV v i (σ k) := fun k hk => by simp only [wV]; rw [k6 k hk]
  have ew2 : ∀ j k, j < 9 → ¬ j = i → k < 60 → wV v' j k = wV v j k := fun j k h1 h2 h3 => by simp only [wV]; rw [Nat.add_assoc, er j (5 + k) h1 h2 (by omega)]
  refine ⟨fun j hj => ?_, fun j hj => ?_, fun j hj => ?_, fun j hj => ?_, q.c60, fun j hj => ?_, fun j k hj hk => ?_, fun j k hj h1 h2 => ?_, fun x hx ht => ?_, fun x hx => ?_, fun x hx => ?_, fun x c hx hcc => ?_, ?_⟩
  · by_cases e : j = i
    · subst e; exact k1
    · rw [show v' (35 + 65 * j) = v (35 + 65 * j) from er j 0 hj e (by omega)]; exact q.kd j hj
  · by_cases e : j = i
    · subst e; exact k2
    · rw [er j 1 hj e (by omega)]; exact q.ms j hj
  · by_cases e : j = i
    · subst e; exact k3
    · rw [er j 2 hj e (by omega)]; exact q.pt j hj
  · by_cases e : j = i
    · subst e; rw [k4]; exact q.ct j hj
    · rw [er j 3 hj e (by omega)]; exact q.ct j hj
  · by_cases e : j = i
    · subst e; exact k5
    · rw [er j 4 hj e (by omega)]; exact q.fo j hj
  · by_cases e : j = i
    · subst e
      have s1 := pi.1 k hk
      obtain ⟨o1, o2, o3, o4, o5⟩ := q.od j (σ k) hj s1.1
      rw [ew k hk, k6 k hk, e60 _ o1]
      refine ⟨o1, o2, o3, o4, ?_⟩
      show (if H _ = j then τ (P _) else P _) = k
      rw [if_pos o4, o5]; exact s1.2
    · have hcj := q.c60 j hj
      obtain ⟨o1, o2, o3, o4, o5⟩ := q.od j k hj hk
      rw [ew2 j k hj e (by omega), e60 _ o1, Nat.add_assoc _ 5 k, er j (5 + k) hj e (by omega), ← Nat.add_assoc]
      refine ⟨o1, o2, o3, o4, ?_⟩
      show (if H _ = i then τ (P _) else P _) = k
      rw [if_neg (by rw [o4]; exact e), o5]
  · by_cases e : j = i
    · subst e; rw [k7 k h1 h2]; exact q.zo j k hj h1 h2
    · rw [Nat.add_assoc _ 5 k, er j (5 + k) hj e (by omega), ← Nat.add_assoc]; exact q.zo j k hj h1 h2
  · rw [e60 x hx] at ht
    obtain ⟨o1, o2, o3⟩ := q.hp x hx ht
    refine ⟨o1, ?_⟩
    show (if H x = i then τ (P x) else P x) < C (H x) ∧ wV v' (H x) (if H x = i then τ (P x) else P x) = x
    by_cases e : H x = i
    · rw [if_pos e]
      rw [e] at o2 o3 ⊢
      have s2 := pi.2 _ o2
      refine ⟨s2.1, ?_⟩
      rw [ew _ s2.1, s2.2]; exact o3
    · rw [if_neg e]
      have hcj := q.c60 _ o1
      exact ⟨o2, by rw [ew2 _ _ o1 e (by omega)]; exact o3⟩
  · rw [e60 x hx]; exact q.th x hx
  · rw [e60 x hx, e6 x 1 hx (by omega)]
    rcases q.fl x hx with ⟨h1, h2⟩ | h1
    · exact Or.inl ⟨h1, fun c hc => by rw [Nat.add_assoc, e6 x (2 + c) hx (by omega), ← Nat.add_assoc]; exact h2 c hc⟩
    · exact Or.inr h1
  · rw [Nat.add_assoc, e6 x (2 + c) hx (by omega), ← Nat.add_assoc]; exact q.sh x c hx hcc
  · rw [q.sm]
    exact cntB_cg 60 (fun j hj => by simp only [e60 j hj])
theorem RI.rem (q : RI v C H P) {w i p c : Nat} (hw : w < 60) (ht : v (620 + 6 * w) = nI 1) (hi : H w = i) (hp : P w = p) (hcc : C i = c) (ho : ∀ e, 35 ≤ e → e < 980 → (e < 35 + 65 * i ∨ 35 + 65 * i + 65 ≤ e) → (e < 620 + 6 * w ∨ 620 + 6 * w + 6 ≤ e) → v' e = v e) (k1 : ∀ x, x < 3 → v' (35 + 65 * i + x) = v (35 + 65 * i + x)) (k4 : v' (35 + 65 * i + 3) = nI (c - 1)) (k5 : (c - 1 = 0 ∧ v' (35 + 65 * i + 4) = -1) ∨ ∃ f, f < c - 1 ∧ v' (35 + 65 * i + 4) = nI f) (k6 : ∀ k, k < c - 1 → v' (35 + 65 * i + 5 + k) = if k < p then v (35 + 65 * i + 5 + k) else v (35 + 65 * i + 5 + (k + 1))) (k7 : ∀ k, c - 1 ≤ k → k < 60 → v' (35 + 65 * i + 5 + k) = nI 0) (k8 : ∀ x, x < 6 → v' (620 + 6 * w + x) = nI 0) : RI v' (fun k => if k = i then c - 1 else C k) H (fun x => if H x = i ∧ p < P x then P x - 1 else P x) := by
  obtain ⟨g1, g2, g3⟩ := q.hp w hw ht
  rw [hi] at g1 g2 g3
  rw [hp] at g2 g3
  rw [hcc] at g2
  have hc := q.c60 i g1
  rw [hcc] at hc
  have e6 : ∀ w0 x, w0 < 60 → ¬ w0 = w → x < 6 → v' (620 + 6 * w0 + x) = v (620 + 6 * w0 + x) := fun w0 x h1 h3 h2 => ho _ (by omega) (by omega) (by omega) (by omega)
  have e60 : ∀ w0, w0 < 60 → ¬ w0 = w → v' (620 + 6 * w0) = v (620 + 6 * w0) := fun w0 h1 h3 => ho _ (by omega) (by omega) (by omega) (by omega)
  have z0 : v' (620 + 6 * w) = nI 0 := k8 0 (by omega)
  have er : ∀ j x, j < 9 → ¬ j = i → x < 65 → v' (35 + 65 * j + x) = v (35 + 65 * j + x) := fun j x h1 h2 h3 => ho _ (by omega) (by omega) (by omega) (by omega)
  have ew : ∀ k, k < c - 1 → wV v' i k = wV v i (if k < p then k else k + 1) := fun k hk => by
    simp only [wV]; rw [k6 k hk]; split <;> rfl
  have ew2 : ∀ j k, j < 9 → ¬ j = i → k < 60 → wV v' j k = wV v j k := fun j k h1 h2 h3 => by simp only [wV]; rw [Nat.add_assoc, er j (5 + k) h1 h2 (by omega)]
  refine ⟨fun j hj => ?_, fun j hj => ?_, fun j hj => ?_, fun j hj => ?_, fun j hj => ?_, fun j hj => ?_, fun j k hj hk => ?_, fun j k hj h1 h2 => ?_, fun x hx ht2 => ?_, fun x hx => ?_, fun x hx => ?_, fun x cc hx hcx => ?_, ?_⟩
  · by_cases e : j = i
    · subst e
      have := k1 0 (by omega)
      rw [Nat.add_zero] at this
      rw [this]; exact q.kd j hj
    · rw [show v' (35 + 65 * j) = v (35 + 65 * j) from er j 0 hj e (by omega)]; exact q.kd j hj
  · by_cases e : j = i
    · subst e; rw [k1 1 (by omega)]; exact q.ms j hj
    · rw [er j 1 hj e (by omega)]; exact q.ms j hj
  · by_cases e : j = i
    · subst e; rw [k1 2 (by omega)]; exact q.pt j hj
    · rw [er j 2 hj e (by omega)]; exact q.pt j hj
  · by_cases e : j = i
    · subst e; rw [k4]; simp
    · rw [er j 3 hj e (by omega)]; simp only [e, if_false]; exact q.ct j hj
  · have := q.c60 j hj
    simp only
    split <;> omega
  · by_cases e : j = i
    · subst e; simp only [if_true]; exact k5
    · rw [er j 4 hj e (by omega)]; simp only [e, if_false]; exact q.fo j hj
  · by_cases e : j = i
    · subst e
      simp only [if_true] at hk
      have hs : (if k < p then k else k + 1) < C j := by split <;> omega
      have hne : ¬ (if k < p then k else k + 1) = p := by split <;> omega
      have hb : (if k < p then k else k + 1) = k ∧ k < p ∨ (if k < p then k else k + 1) = k + 1 ∧ p ≤ k := by split <;> omega
      have hv : v' (35 + 65 * j + 5 + k) = v (35 + 65 * j + 5 + (if k < p then k else k + 1)) := by rw [k6 k hk]; split <;> rfl
      rw [ew k hk, hv]
      generalize (if k < p then k else k + 1) = k2 at hs hne hb
      obtain ⟨o1, o2, o3, o4, o5⟩ := q.od j k2 hj hs
      have hx : ¬ wV v j k2 = w := fun z => hne (by rw [← hp, ← z]; exact o5.symm)
      rw [e60 _ o1 hx]
      refine ⟨o1, o2, o3, o4, ?_⟩
      show (if H _ = j ∧ p < P _ then P _ - 1 else P _) = k
      rw [o5, o4]
      split <;> omega
    · simp only [e, if_false] at hk
      have hcj := q.c60 j hj
      obtain ⟨o1, o2, o3, o4, o5⟩ := q.od j k hj hk
      have hx : ¬ wV v j k = w := fun z => e (by rw [← hi, ← z]; exact o4.symm)
      rw [ew2 j k hj e (by omega), e60 _ o1 hx, Nat.add_assoc _ 5 k, er j (5 + k) hj e (by omega), ← Nat.add_assoc]
      refine ⟨o1, o2, o3, o4, ?_⟩
      show (if H _ = i ∧ p < P _ then P _ - 1 else P _) = k
      rw [if_neg (by rw [o4]; exact fun z => e z.1), o5]
  · by_cases e : j = i
    · subst e; simp only [if_true] at h1; exact k7 k h1 h2
    · simp only [e, if_false] at h1
      rw [Nat.add_assoc _ 5 k, er j (5 + k) hj e (by omega), ← Nat.add_assoc]; exact q.zo j k hj h1 h2
  · have hx2 : ¬ x = w := fun z => by rw [z, z0] at ht2; exact n0_1 ht2
    rw [e60 x hx hx2] at ht2
    obtain ⟨o1, o2, o3⟩ := q.hp x hx ht2
    refine ⟨o1, ?_⟩
    show (if H x = i ∧ p < P x then P x - 1 else P x) < (if H x = i then c - 1 else C (H x)) ∧ wV v' (H x) (if H x = i ∧ p < P x then P x - 1 else P x) = x
    by_cases e : H x = i
    · rw [e] at o2 o3 ⊢
      have hne : ¬ P x = p := fun z => hx2 (by rw [← o3, z, g3])
      simp only [true_and, if_true]
      by_cases e2 : p < P x
      · rw [if_pos e2]
        refine ⟨by omega, ?_⟩
        rw [ew _ (by omega), if_neg (by omega), show P x - 1 + 1 = P x by omega]; exact o3
      · rw [if_neg e2]
        refine ⟨by omega, ?_⟩
        rw [ew _ (by omega), if_pos (by omega)]; exact o3
    · simp only [e, false_and, if_false]
      have hcj := q.c60 _ o1
      exact ⟨o2, by rw [ew2 _ _ o1 e (by omega)]; exact o3⟩
  · by_cases e : x = w
    · subst e; exact Or.inl z0
    · rw [e60 x hx e]; exact q.th x hx
  · by_cases e : x = w
    · subst e; exact Or.inl ⟨k8 1 (by omega), fun c hc => by rw [Nat.add_assoc]; exact k8 (2 + c) (by omega)⟩
    · rw [e60 x hx e, e6 x 1 hx e (by omega)]
      rcases q.fl x hx with ⟨h1, h2⟩ | h1
      · exact Or.inl ⟨h1, fun c hc => by rw [Nat.add_assoc, e6 x (2 + c) hx e (by omega), ← Nat.add_assoc]; exact h2 c hc⟩
      · exact Or.inr h1
  · by_cases e : x = w
    · subst e; exact ⟨0, by omega, by rw [Nat.add_assoc]; exact k8 (2 + cc) (by omega)⟩
    · rw [Nat.add_assoc, e6 x (2 + cc) hx e (by omega), ← Nat.add_assoc]; exact q.sh x cc hx hcx
  · have a1 : sumN C 9 = sumN (fun k => if k = i then c - 1 else C k) 9 + 1 := sumN_1 (j := i) 9 g1 (by simp only [if_true]; omega) (fun k _ hn => by simp only [hn, if_false])
    have a2 := cntB_1 (f := fun w => decide (v' (620 + 6 * w) = nI 1)) (g := fun w => decide (v (620 + 6 * w) = nI 1)) (j := w) 60 hw (by simp [z0, n0_1]) (by simp [ht]) (fun k hk hn => by simp only [e60 k hk hn])
    have := q.sm
    omega
theorem RI.room (q : RI v C H P) {w j : Nat} (hw : w < 60) (ht : ¬ v (620 + 6 * w) = nI 1) (hj : j < 9) : C j < 60 := by
  have a1 := sumN_le (C := C) (j := j) 9 hj
  have a2 := cntB_lt (f := fun w => decide (v (620 + 6 * w) = nI 1)) (j := w) 60 hw (by simp [ht])
  have := q.sm
  omega
theorem RI.ins (q : RI v C H P) {w i p c : Nat} (hw : w < 60) (ht : ¬ v (620 + 6 * w) = nI 1) (hi : i < 9) (hcc : C i = c) (hpc : p ≤ c) (ho : ∀ e, 35 ≤ e → e < 980 → (e < 35 + 65 * i ∨ 35 + 65 * i + 65 ≤ e) → ¬ e = 620 + 6 * w → v' e = v e) (k1 : ∀ x, x < 3 → v' (35 + 65 * i + x) = v (35 + 65 * i + x)) (k4 : v' (35 + 65 * i + 3) = nI (c + 1)) (k5 : v' (35 + 65 * i + 4) = nI p) (k6 : ∀ k, k < c + 1 → v' (35 + 65 * i + 5 + k) = if k < p then v (35 + 65 * i + 5 + k) else if k = p then nI w else v (35 + 65 * i + 5 + (k - 1))) (k7 : ∀ k, c + 1 ≤ k → k < 60 → v' (35 + 65 * i + 5 + k) = v (35 + 65 * i + 5 + k)) (k8 : v' (620 + 6 * w) = nI 1) : RI v' (fun k => if k = i then c + 1 else C k) (fun x => if x = w then i else H x) (fun x => if x = w then p else if H x = i ∧ p ≤ P x then P x + 1 else P x) := by
  have hc60 := q.room hw ht hi
  rw [hcc] at hc60
  have e6 : ∀ w0 x, w0 < 60 → 1 ≤ x → x < 6 → v' (620 + 6 * w0 + x) = v (620 + 6 * w0 + x) := fun w0 x h1 h3 h2 => ho _ (by omega) (by omega) (by omega) (by omega)
  have e60 : ∀ w0, w0 < 60 → ¬ w0 = w → v' (620 + 6 * w0) = v (620 + 6 * w0) := fun w0 h1 h3 => ho _ (by omega) (by omega) (by omega) (by omega)
  have er : ∀ j x, j < 9 → ¬ j = i → x < 65 → v' (35 + 65 * j + x) = v (35 + 65 * j + x) := fun j x h1 h2 h3 => ho _ (by omega) (by omega) (by omega) (by omega)
  have ew2 : ∀ j k, j < 9 → ¬ j = i → k < 60 → wV v' j k = wV v j k := fun j k h1 h2 h3 => by simp only [wV]; rw [Nat.add_assoc, er j (5 + k) h1 h2 (by omega)]
  have ewp : wV v' i p = w := by simp only [wV]; rw [k6 p (by omega), if_neg (by omega), if_pos rfl, ar_cl (by omega)]
  have ewl : ∀ k, k < p → wV v' i k = wV v i k := fun k hk => by simp only [wV]; rw [k6 k (by omega), if_pos hk]
  have ewr : ∀ k, p < k → k < c + 1 → wV v' i k = wV v i (k - 1) := fun k hk h2 => by simp only [wV]; rw [k6 k h2, if_neg (by omega), if_neg (by omega)]
  have hnw : ∀ j k, j < 9 → k < C j → ¬ wV v j k = w := fun j k h1 h2 z => by
    have := (q.od j k h1 h2).2.2.1
    rw [z] at this; exact ht this
  refine ⟨fun j hj => ?_, fun j hj => ?_, fun j hj => ?_, fun j hj => ?_, fun j hj => ?_, fun j hj => ?_, fun j k hj hk => ?_, fun j k hj h1 h2 => ?_, fun x hx ht2 => ?_, fun x hx => ?_, fun x hx => ?_, fun x cc hx hcx => ?_, ?_⟩
  · by_cases e : j = i
    · subst e
      have := k1 0 (by omega)
      rw [Nat.add_zero] at this
      rw [this]; exact q.kd j hj
    · rw [show v' (35 + 65 * j) = v (35 + 65 * j) from er j 0 hj e (by omega)]; exact q.kd j hj
  · by_cases e : j = i
    · subst e; rw [k1 1 (by omega)]; exact q.ms j hj
    · rw [er j 1 hj e (by omega)]; exact q.ms j hj
  · by_cases e : j = i
    · subst e; rw [k1 2 (by omega)]; exact q.pt j hj
    · rw [er j 2 hj e (by omega)]; exact q.pt j hj
  · by_cases e : j = i
    · subst e; rw [k4]; simp
    · rw [er j 3 hj e (by omega)]; simp only [e, if_false]; exact q.ct j hj
  · have := q.c60 j hj
    simp only
    split <;> omega
  · by_cases e : j = i
    · subst e; simp only [if_true]; exact Or.inr ⟨p, by omega, k5⟩
    · rw [er j 4 hj e (by omega)]; simp only [e, if_false]; exact q.fo j hj
  · by_cases e : j = i
    · subst e
      simp only [if_true] at hk
      rcases Nat.lt_trichotomy k p with hlt | heq | hgt
      · obtain ⟨o1, o2, o3, o4, o5⟩ := q.od j k hj (by omega)
        have hx := hnw j k hj (by omega)
        rw [ewl k hlt, e60 _ o1 hx, k6 k hk, if_pos hlt]
        refine ⟨o1, o2, o3, ?_, ?_⟩
        · simp only [hx, if_false]; exact o4
        · simp only [hx, if_false]; rw [o5, if_neg (by omega)]
      · subst heq
        rw [ewp, k6 k hk, if_neg (by omega), if_pos rfl]
        refine ⟨hw, rfl, k8, ?_, ?_⟩
        · simp
        · simp
      · obtain ⟨o1, o2, o3, o4, o5⟩ := q.od j (k - 1) hj (by omega)
        have hx := hnw j (k - 1) hj (by omega)
        rw [ewr k hgt hk, e60 _ o1 hx, k6 k hk, if_neg (by omega), if_neg (by omega)]
        refine ⟨o1, o2, o3, ?_, ?_⟩
        · simp only [hx, if_false]; exact o4
        · simp only [hx, if_false]; rw [o5, o4, if_pos (by omega)]; omega
    · simp only [e, if_false] at hk
      have hcj := q.c60 j hj
      obtain ⟨o1, o2, o3, o4, o5⟩ := q.od j k hj hk
      have hx := hnw j k hj hk
      rw [ew2 j k hj e (by omega), e60 _ o1 hx, Nat.add_assoc _ 5 k, er j (5 + k) hj e (by omega), ← Nat.add_assoc]
      refine ⟨o1, o2, o3, ?_, ?_⟩
      · simp only [hx, if_false]; exact o4
      · simp only [hx, if_false]; rw [o5, o4, if_neg (by omega)]
  · by_cases e : j = i
    · subst e; simp only [if_true] at h1; rw [k7 k h1 h2]; exact q.zo j k hj (by omega) h2
    · simp only [e, if_false] at h1
      rw [Nat.add_assoc _ 5 k, er j (5 + k) hj e (by omega), ← Nat.add_assoc]; exact q.zo j k hj h1 h2
  · by_cases hx2 : x = w
    · subst hx2
      simp only [if_true]
      exact ⟨hi, by omega, ewp⟩
    · rw [e60 x hx hx2] at ht2
      obtain ⟨o1, o2, o3⟩ := q.hp x hx ht2
      simp only [hx2, if_false]
      refine ⟨o1, ?_⟩
      by_cases e : H x = i
      · rw [e] at o2 o3 ⊢
        simp only [true_and, if_true]
        by_cases e2 : p ≤ P x
        · rw [if_pos e2]
          refine ⟨by omega, ?_⟩
          rw [ewr _ (by omega) (by omega), Nat.add_sub_cancel]; exact o3
        · rw [if_neg e2]
          refine ⟨by omega, ?_⟩
          rw [ewl _ (by omega)]; exact o3
      · simp only [e, false_and, if_false]
        have hcj := q.c60 _ o1
        exact ⟨o2, by rw [ew2 _ _ o1 e (by omega)]; exact o3⟩
  · by_cases e : x = w
    · subst e; exact Or.inr k8
    · rw [e60 x hx e]; exact q.th x hx
  · rw [e6 x 1 hx (by omega) (by omega)]
    rcases q.fl x hx with ⟨h1, h2⟩ | ⟨h1, h2⟩
    · exact Or.inl ⟨h1, fun c hc => by rw [Nat.add_assoc, e6 x (2 + c) hx (by omega) (by omega), ← Nat.add_assoc]; exact h2 c hc⟩
    · refine Or.inr ⟨h1, ?_⟩
      by_cases e : x = w
      · subst e; exact k8
      · rw [e60 x hx e]; exact h2
  · rw [Nat.add_assoc, e6 x (2 + cc) hx (by omega) (by omega), ← Nat.add_assoc]; exact q.sh x cc hx hcx
  · have a1 := sumN_1 (C := C) (C' := fun k => if k = i then c + 1 else C k) (j := i) 9 hi (by simp only [if_true]; omega) (fun k _ hn => by simp only [hn, if_false])
    have a2 := cntB_1 (g := fun w => decide (v' (620 + 6 * w) = nI 1)) (f := fun w => decide (v (620 + 6 * w) = nI 1)) (j := w) 60 hw (by simp [ht]) (by simp [k8]) (fun k hk hn => by simp only [e60 k hk hn])
    have := q.sm
    omega
/-- flag and shares of a window -/
theorem RI.set5 (q : RI v C H P) {w : Nat} (hw : w < 60) (ht : v (620 + 6 * w) = nI 1) (ho : ∀ e, 35 ≤ e → e < 980 → (e < 620 + 6 * w + 1 ∨ 620 + 6 * w + 6 ≤ e) → v' e = v e) (k1 : (v' (620 + 6 * w + 1) = nI 0 ∧ ∀ c, c < 4 → v' (620 + 6 * w + 2 + c) = nI 0) ∨ v' (620 + 6 * w + 1) = nI 1) (k2 : ∀ c, c < 4 → ∃ q, q ≤ 1000 ∧ v' (620 + 6 * w + 2 + c) = nI q) : RI v' C H P := by
  have e6 : ∀ w0 x, w0 < 60 → ¬ w0 = w → x < 6 → v' (620 + 6 * w0 + x) = v (620 + 6 * w0 + x) := fun w0 x h1 h3 h2 => ho _ (by omega) (by omega) (by omega)
  have e60 : ∀ w0, w0 < 60 → v' (620 + 6 * w0) = v (620 + 6 * w0) := fun w0 h1 => ho _ (by omega) (by omega) (by omega)
  have er : ∀ j x, j < 9 → x < 65 → v' (35 + 65 * j + x) = v (35 + 65 * j + x) := fun j x h1 h3 => ho _ (by omega) (by omega) (by omega)
  have ew2 : ∀ j k, j < 9 → k < 60 → wV v' j k = wV v j k := fun j k h1 h3 => by simp only [wV]; rw [Nat.add_assoc, er j (5 + k) h1 (by omega)]
  refine ⟨fun j hj => ?_, fun j hj => ?_, fun j hj => ?_, fun j hj => ?_, q.c60, fun j hj => ?_, fun j k hj hk => ?_, fun j k hj h1 h2 => ?_, fun x hx ht2 => ?_, fun x hx => ?_, fun x hx => ?_, fun x cc hx hcx => ?_, ?_⟩
  · rw [show v' (35 + 65 * j) = v (35 + 65 * j) from er j 0 hj (by omega)]; exact q.kd j hj
  · rw [er j 1 hj (by omega)]; exact q.ms j hj
  · rw [er j 2 hj (by omega)]; exact q.pt j hj
  · rw [er j 3 hj (by omega)]; exact q.ct j hj
  · rw [er j 4 hj (by omega)]; exact q.fo j hj
  · have hcj := q.c60 j hj
    obtain ⟨o1, o2, o3, o4, o5⟩ := q.od j k hj hk
    rw [ew2 j k hj (by omega), e60 _ o1, Nat.add_assoc _ 5 k, er j (5 + k) hj (by omega), ← Nat.add_assoc]
    exact ⟨o1, o2, o3, o4, o5⟩
  · rw [Nat.add_assoc _ 5 k, er j (5 + k) hj (by omega), ← Nat.add_assoc]; exact q.zo j k hj h1 h2
  · rw [e60 x hx] at ht2
    obtain ⟨o1, o2, o3⟩ := q.hp x hx ht2
    have hcj := q.c60 _ o1
    exact ⟨o1, o2, by rw [ew2 _ _ o1 (by omega)]; exact o3⟩
  · rw [e60 x hx]; exact q.th x hx
  · rw [e60 x hx]
    by_cases e : x = w
    · subst e
      rcases k1 with h1 | h1
      · exact Or.inl h1
      · exact Or.inr ⟨h1, ht⟩
    · rw [e6 x 1 hx e (by omega)]
      rcases q.fl x hx with ⟨h1, h2⟩ | h1
      · exact Or.inl ⟨h1, fun c hc => by rw [Nat.add_assoc, e6 x (2 + c) hx e (by omega), ← Nat.add_assoc]; exact h2 c hc⟩
      · exact Or.inr h1
  · by_cases e : x = w
    · subst e; exact k2 cc hcx
    · rw [Nat.add_assoc, e6 x (2 + cc) hx e (by omega), ← Nat.add_assoc]; exact q.sh x cc hx hcx
  · rw [q.sm]
    exact cntB_cg 60 (fun j hj => by simp only [e60 j hj])
/-! the desk's side -/
theorem DV.row {C' : Nat → Nat} (t : DV h d v n C H) {i : Nat} (hi : i < 9) (hn : n ≤ 4) (f : FRD (d + 3 + 4 * i) (d + 7 + 4 * i) h h') (ho : ∀ e, (e < 35 + 65 * i ∨ 35 + 65 * i + 65 ≤ e) → v' e = v e) (k1 : ∀ c, c < 3 → rI h' (d + 6 + 4 * i) c = v' (35 + 65 * i + c)) (k2 : rI h' (d + 4 + 4 * i) 1 = v' (35 + 65 * i + 3)) (k3 : rI h' (d + 3 + 4 * i) 1 = v' (35 + 65 * i + 4)) (k4 : ∀ k, k < C' i → rI h' (d + 5 + 4 * i) k = v' (35 + 65 * i + 5 + k)) (k5 : ∀ k, k < 9 → ¬ k = i → C' k = C k) (c60 : ∀ k, k < 9 → C k ≤ 60) : DV h' d v' n C' H := by
  refine ⟨t.k.cg f.fk f.fp, ?_, ?_, ?_, ?_, fun j hj => ?_, fun j c hj hc => ?_, fun k hk => ?_, fun k hk => ?_, fun j c hj hc => ?_, fun j hj => ?_, fun j hj => ?_, fun j k hj hk => ?_, fun w hw => ?_, fun w c hw hc => ?_, fun w => ?_⟩
  · rw [f.fi _ (by omega), ho _ (by omega)]; exact t.many
  · rw [f.fi _ (by omega), ho _ (by omega)]; exact t.cur
  · rw [f.fi _ (by omega)]; exact t.vsz
  · rw [f.fi _ (by omega)]; exact t.hsz
  · rw [f.fi _ (by omega), ho _ (by omega)]; exact t.ws j hj
  · rw [f.fi _ (by omega), ho _ (by omega)]; exact t.bx j c hj hc
  · rw [f.fi _ (by omega), ho _ (by omega)]; exact t.vis k hk
  · rw [f.fi _ (by omega), ho _ (by omega)]; exact t.hid k hk
  · by_cases e : j = i
    · subst e; exact k1 c hc
    · rw [f.fi _ (by omega), ho _ (by omega)]; exact t.lay j c hj hc
  · by_cases e : j = i
    · subst e; exact k2
    · rw [f.fi _ (by omega), ho _ (by omega)]; exact t.cnt j hj
  · by_cases e : j = i
    · subst e; exact k3
    · rw [f.fi _ (by omega), ho _ (by omega)]; exact t.foc j hj
  · by_cases e : j = i
    · subst e; exact k4 k hk
    · rw [k5 j hj e] at hk
      have := c60 j hj
      rw [f.fi _ (by omega), ho _ (by omega)]; exact t.ord j k hj hk
  · rw [f.fi _ (by omega), ho _ (by omega)]; exact t.hom w hw
  · rw [f.fi _ (by omega), ho _ (by omega)]; exact t.shr w c hw hc
  · rw [f.fj _ (by omega), t.bit w]
    by_cases hw : w < 60
    · rw [ho _ (by omega)]
    · simp [hw]
theorem DV.home {H' : Nat → Nat} (t : DV h d v n C H) {w : Nat} (hw : w < 60) (hn : n ≤ 4) (x y : Int32) (hy : x = if y = nI 1 then nI (H' w) else -1) (hH : ∀ k, k < 60 → ¬ k = w → H' k = H k) (c60 : ∀ k, k < 9 → C k ≤ 60) : DV (uI h (d + 52) w x) d (upd v (620 + 6 * w) y) n C H' := by
  have f : FRD (d + 52) (d + 53) h (uI h (d + 52) w x) := FRD.uI _ (by omega) (by omega) _ _
  have ho : ∀ e, ¬ e = 620 + 6 * w → upd v (620 + 6 * w) y e = v e := fun e he => by rw [upd_at, if_neg he]
  refine ⟨t.k.cg f.fk f.fp, ?_, ?_, ?_, ?_, fun j hj => ?_, fun j c hj hc => ?_, fun k hk => ?_, fun k hk => ?_, fun j c hj hc => ?_, fun j hj => ?_, fun j hj => ?_, fun j k hj hk => ?_, fun k hk => ?_, fun k c hk hc => ?_, fun k => ?_⟩
  · rw [f.fi _ (by omega), ho _ (by omega)]; exact t.many
  · rw [f.fi _ (by omega), ho _ (by omega)]; exact t.cur
  · rw [f.fi _ (by omega)]; exact t.vsz
  · rw [f.fi _ (by omega)]; exact t.hsz
  · rw [f.fi _ (by omega), ho _ (by omega)]; exact t.ws j hj
  · rw [f.fi _ (by omega), ho _ (by omega)]; exact t.bx j c hj hc
  · rw [f.fi _ (by omega), ho _ (by omega)]; exact t.vis k hk
  · rw [f.fi _ (by omega), ho _ (by omega)]; exact t.hid k hk
  · rw [f.fi _ (by omega), ho _ (by omega)]; exact t.lay j c hj hc
  · rw [f.fi _ (by omega), ho _ (by omega)]; exact t.cnt j hj
  · rw [f.fi _ (by omega), ho _ (by omega)]; exact t.foc j hj
  · have := c60 j hj
    rw [f.fi _ (by omega), ho _ (by omega)]; exact t.ord j k hj hk
  · rw [rI_uI, if_pos rfl, upd_at]
    by_cases e : k = w
    · subst e; rw [if_pos rfl, upd_at, if_pos rfl]; exact hy
    · rw [if_neg e, ho _ (by omega), t.hom k hk, hH k hk e]
  · rw [f.fi _ (by omega), ho _ (by omega)]; exact t.shr k c hk hc
  · rw [f.fj _ (by omega), t.bit k, ho _ (by omega)]
theorem DV.flt (t : DV h d v n C H) {w : Nat} (hw : w < 60) (hn : n ≤ 4) {x : Int64} {y a0 a1 a2 a3 : Int32} (hx : ∀ j, x.toBitVec.getLsbD j = if j = w then decide (y = nI 1) else (rJ h (d + 50) 0).toBitVec.getLsbD j) (ho : ∀ e, (e < 620 + 6 * w + 1 ∨ 620 + 6 * w + 6 ≤ e) → v' e = v e) (k1 : v' (620 + 6 * w + 1) = y) (k2 : v' (620 + 6 * w + 2) = a0) (k3 : v' (620 + 6 * w + 3) = a1) (k4 : v' (620 + 6 * w + 4) = a2) (k5 : v' (620 + 6 * w + 5) = a3) (c60 : ∀ k, k < 9 → C k ≤ 60) : DV (uA (uJ h (d + 50) 0 x) (d + 51) (sh4 (rI h (d + 51)) w a0 a1 a2 a3)) d v' n C H := by
  have f : FRD (d + 50) (d + 52) h (uA (uJ h (d + 50) 0 x) (d + 51) (sh4 (rI h (d + 51)) w a0 a1 a2 a3)) := (FRD.uJ _ (by omega) (by omega) _ _).tr (FRD.uA _ (by omega) (by omega) _)
  refine ⟨t.k.cg f.fk f.fp, ?_, ?_, ?_, ?_, fun j hj => ?_, fun j c hj hc => ?_, fun k hk => ?_, fun k hk => ?_, fun j c hj hc => ?_, fun j hj => ?_, fun j hj => ?_, fun j k hj hk => ?_, fun k hk => ?_, fun k c hk hc => ?_, fun k => ?_⟩
  · rw [f.fi _ (by omega), ho _ (by omega)]; exact t.many
  · rw [f.fi _ (by omega), ho _ (by omega)]; exact t.cur
  · rw [f.fi _ (by omega)]; exact t.vsz
  · rw [f.fi _ (by omega)]; exact t.hsz
  · rw [f.fi _ (by omega), ho _ (by omega)]; exact t.ws j hj
  · rw [f.fi _ (by omega), ho _ (by omega)]; exact t.bx j c hj hc
  · rw [f.fi _ (by omega), ho _ (by omega)]; exact t.vis k hk
  · rw [f.fi _ (by omega), ho _ (by omega)]; exact t.hid k hk
  · rw [f.fi _ (by omega), ho _ (by omega)]; exact t.lay j c hj hc
  · rw [f.fi _ (by omega), ho _ (by omega)]; exact t.cnt j hj
  · rw [f.fi _ (by omega), ho _ (by omega)]; exact t.foc j hj
  · have := c60 j hj
    rw [f.fi _ (by omega), ho _ (by omega)]; exact t.ord j k hj hk
  · rw [f.fi _ (by omega), ho _ (by omega)]; exact t.hom k hk
  · rw [rI_uA, if_pos rfl, sh4]
    simp only [upd_at]
    by_cases e : k = w
    · subst e
      rcases (show c = 0 ∨ c = 1 ∨ c = 2 ∨ c = 3 by omega) with rfl | rfl | rfl | rfl
      · rw [if_neg (by omega), if_neg (by omega), if_neg (by omega), if_pos (by omega)]; exact k2.symm
      · rw [if_neg (by omega), if_neg (by omega), if_pos (by omega)]; exact k3.symm
      · rw [if_neg (by omega), if_pos (by omega)]; exact k4.symm
      · rw [if_pos (by omega)]; exact k5.symm
    · rw [if_neg (by omega), if_neg (by omega), if_neg (by omega), if_neg (by omega), ho _ (by omega)]; exact t.shr k c hk hc
  · show ((rJ (uA (uJ h (d + 50) 0 x) (d + 51) _) (d + 50) 0).toBitVec.getLsbD k) = _
    rw [rJ_uA, rJ_uJ, if_pos rfl]
    simp only [vp_updL, if_true]
    rw [hx k]
    by_cases e : k = w
    · subst e; rw [if_pos rfl, k1]; simp [hw]
    · rw [if_neg e, t.bit k]
      by_cases hk : k < 60
      · rw [ho _ (by omega)]
      · simp [hk]
end ROWS
