/-! THE STATE: what holds of a vector, and when a desk is one -/
theorem llast_no {f : Nat → Int32} {x : Int32} : ∀ (m k : Nat) (r : Int32), (∀ j, k ≤ j → j < k + m → ¬ f j = x) → llast f x m k r = r := by
  intro m
  induction m with
  | zero => intro k r _; rfl
  | succ m ih =>
    intro k r h
    rw [llast, if_neg (h k (by omega) (by omega)), ih (k + 1) r (fun j h1 h2 => h j (by omega) (by omega))]
theorem llast_at {f : Nat → Int32} {x : Int32} {i : Nat} : ∀ (m k : Nat) (r : Int32), k ≤ i → i < k + m → f i = x → (∀ j, i < j → j < k + m → ¬ f j = x) → llast f x m k r = nI i := by
  intro m
  induction m with
  | zero => intro k r h1 h2; omega
  | succ m ih =>
    intro k r h1 h2 h3 h4
    rw [llast]
    by_cases hk : k = i
    · subst hk
      rw [if_pos h3, llast_no m (k + 1) _ (fun j h1 h2 => h4 j (by omega) (by omega))]
    · exact ih (k + 1) _ (by omega) (by omega) h3 (fun j h1 h2 => h4 j h1 (by omega))
theorem lfind_no {f : Nat → Int32} {x : Int32} : ∀ (m k : Nat), (∀ j, k ≤ j → j < k + m → ¬ f j = x) → lfind f x m k = -1 := by
  intro m
  induction m with
  | zero => intro k _; rfl
  | succ m ih =>
    intro k h
    rw [lfind, if_neg (h k (by omega) (by omega)), ih (k + 1) (fun j h1 h2 => h j (by omega) (by omega))]
theorem lfind_at {f : Nat → Int32} {x : Int32} {i : Nat} : ∀ (m k : Nat), k ≤ i → i < k + m → f i = x → (∀ j, k ≤ j → j < i → ¬ f j = x) → lfind f x m k = nI i := by
  intro m
  induction m with
  | zero => intro k h1 h2; omega
  | succ m ih =>
    intro k h1 h2 h3 h4
    rw [lfind]
    by_cases hk : k = i
    · subst hk
      rw [if_pos h3]
    · rw [if_neg (h4 k (Nat.le_refl _) (by omega))]
      exact ih (k + 1) (by omega) (by omega) h3 (fun j h1 h2 => h4 j (by omega) h2)
theorem nI_inj {a b : Nat} (ha : a < 2147483648) (hb : b < 2147483648) (h : nI a = nI b) : a = b := (nI_eq ha hb).mp h
/-- p and lo undo each other below n -/
def PI (n : Nat) (p lo : Nat → Nat) : Prop := (∀ k, k < n → p k < n ∧ lo (p k) = k) ∧ ∀ k, k < n → lo k < n ∧ p (lo k) = k
theorem PI.comp {n : Nat} {p lo σ τ : Nat → Nat} (h : PI n p lo) (s : PI n σ τ) : PI n (fun k => p (σ k)) (fun k => τ (lo k)) := by
  constructor
  · intro k hk
    have h1 := s.1 k hk
    have h2 := h.1 (σ k) h1.1
    exact ⟨h2.1, by show τ (lo (p (σ k))) = k; rw [h2.2]; exact h1.2⟩
  · intro k hk
    have h1 := h.2 k hk
    have h2 := s.2 (lo k) h1.1
    exact ⟨h2.1, by show p (σ (τ (lo k))) = k; rw [h2.2]; exact h1.2⟩
theorem PI.id (n : Nat) : PI n (fun k => k) (fun k => k) := ⟨fun _ h => ⟨h, rfl⟩, fun _ h => ⟨h, rfl⟩⟩
def SI (v : Nat → Int32) (n c : Nat) (p lo r rl : Nat → Nat) : Prop := (1 ≤ n) ∧ (n ≤ 4) ∧ (c < n) ∧ (v 0 = nI n) ∧ (v 1 = nI c) ∧ (v 25 = nI (9 - n)) ∧ (∀ j, j < n → v (21 + j) = nI (p j)) ∧ (∀ k, k < 9 - n → v (26 + k) = nI (p (n + k))) ∧ (PI 9 p lo) ∧ (r 0 = c) ∧ (∀ k, k < n - 1 → v (2 + k) = nI (r (k + 1))) ∧ (PI n r rl) ∧ (∀ j, n ≤ j → j < 4 → v (21 + j) = nI 0) ∧ (∀ k, 9 - n ≤ k → k < 9 → v (26 + k) = nI 0) ∧ (∀ k, n - 1 ≤ k → k < 3 → v (2 + k) = nI 0) ∧ (∀ e, 4 * n ≤ e → e < 16 → v (5 + e) = nI 0) ∧ (∀ j, j < n → (-10000 ≤ (bxV v j 0).toInt ∧ (bxV v j 0).toInt ≤ 10000) ∧ (-10000 ≤ (bxV v j 1).toInt ∧ (bxV v j 1).toInt ≤ 10000) ∧ (1 ≤ (bxV v j 2).toInt ∧ (bxV v j 2).toInt ≤ 10000) ∧ (1 ≤ (bxV v j 3).toInt ∧ (bxV v j 3).toInt ≤ 10000))
theorem SI.n1 {v : Nat → Int32} {n c : Nat} {p lo r rl : Nat → Nat} (x_ : SI v n c p lo r rl) : 1 ≤ n := x_.1
theorem SI.n4 {v : Nat → Int32} {n c : Nat} {p lo r rl : Nat → Nat} (x_ : SI v n c p lo r rl) : n ≤ 4 := x_.2.1
theorem SI.cn {v : Nat → Int32} {n c : Nat} {p lo r rl : Nat → Nat} (x_ : SI v n c p lo r rl) : c < n := x_.2.2.1
theorem SI.v0 {v : Nat → Int32} {n c : Nat} {p lo r rl : Nat → Nat} (x_ : SI v n c p lo r rl) : v 0 = nI n := x_.2.2.2.1
theorem SI.v1 {v : Nat → Int32} {n c : Nat} {p lo r rl : Nat → Nat} (x_ : SI v n c p lo r rl) : v 1 = nI c := x_.2.2.2.2.1
theorem SI.v25 {v : Nat → Int32} {n c : Nat} {p lo r rl : Nat → Nat} (x_ : SI v n c p lo r rl) : v 25 = nI (9 - n) := x_.2.2.2.2.2.1
theorem SI.sh {v : Nat → Int32} {n c : Nat} {p lo r rl : Nat → Nat} (x_ : SI v n c p lo r rl) : ∀ j, j < n → v (21 + j) = nI (p j) := x_.2.2.2.2.2.2.1
theorem SI.hd {v : Nat → Int32} {n c : Nat} {p lo r rl : Nat → Nat} (x_ : SI v n c p lo r rl) : ∀ k, k < 9 - n → v (26 + k) = nI (p (n + k)) := x_.2.2.2.2.2.2.2.1
theorem SI.pl {v : Nat → Int32} {n c : Nat} {p lo r rl : Nat → Nat} (x_ : SI v n c p lo r rl) : PI 9 p lo := x_.2.2.2.2.2.2.2.2.1
theorem SI.r0 {v : Nat → Int32} {n c : Nat} {p lo r rl : Nat → Nat} (x_ : SI v n c p lo r rl) : r 0 = c := x_.2.2.2.2.2.2.2.2.2.1
theorem SI.vs {v : Nat → Int32} {n c : Nat} {p lo r rl : Nat → Nat} (x_ : SI v n c p lo r rl) : ∀ k, k < n - 1 → v (2 + k) = nI (r (k + 1)) := x_.2.2.2.2.2.2.2.2.2.2.1
theorem SI.rr {v : Nat → Int32} {n c : Nat} {p lo r rl : Nat → Nat} (x_ : SI v n c p lo r rl) : PI n r rl := x_.2.2.2.2.2.2.2.2.2.2.2.1
theorem SI.zs {v : Nat → Int32} {n c : Nat} {p lo r rl : Nat → Nat} (x_ : SI v n c p lo r rl) : ∀ j, n ≤ j → j < 4 → v (21 + j) = nI 0 := x_.2.2.2.2.2.2.2.2.2.2.2.2.1
theorem SI.zh {v : Nat → Int32} {n c : Nat} {p lo r rl : Nat → Nat} (x_ : SI v n c p lo r rl) : ∀ k, 9 - n ≤ k → k < 9 → v (26 + k) = nI 0 := x_.2.2.2.2.2.2.2.2.2.2.2.2.2.1
theorem SI.zv {v : Nat → Int32} {n c : Nat} {p lo r rl : Nat → Nat} (x_ : SI v n c p lo r rl) : ∀ k, n - 1 ≤ k → k < 3 → v (2 + k) = nI 0 := x_.2.2.2.2.2.2.2.2.2.2.2.2.2.2.1
theorem SI.zb {v : Nat → Int32} {n c : Nat} {p lo r rl : Nat → Nat} (x_ : SI v n c p lo r rl) : ∀ e, 4 * n ≤ e → e < 16 → v (5 + e) = nI 0 := x_.2.2.2.2.2.2.2.2.2.2.2.2.2.2.2.1
theorem SI.bx {v : Nat → Int32} {n c : Nat} {p lo r rl : Nat → Nat} (x_ : SI v n c p lo r rl) : ∀ j, j < n → (-10000 ≤ (bxV v j 0).toInt ∧ (bxV v j 0).toInt ≤ 10000) ∧ (-10000 ≤ (bxV v j 1).toInt ∧ (bxV v j 1).toInt ≤ 10000) ∧ (1 ≤ (bxV v j 2).toInt ∧ (bxV v j 2).toInt ≤ 10000) ∧ (1 ≤ (bxV v j 3).toInt ∧ (bxV v j 3).toInt ≤ 10000) := x_.2.2.2.2.2.2.2.2.2.2.2.2.2.2.2.2
/-- how many of the first m are so -/
def cntB (f : Nat → Bool) : Nat → Nat
  | 0 => 0
  | m + 1 => cntB f m + (if f m = true then 1 else 0)
def sumN (C : Nat → Nat) : Nat → Nat
  | 0 => 0
  | m + 1 => sumN C m + C m
def RI (v : Nat → Int32) (C H P : Nat → Nat) : Prop := (∀ i, i < 9 → ∃ κ, κ < 6 ∧ v (35 + 65 * i) = nI κ) ∧ (∀ i, i < 9 → ∃ m, m ≤ 60 ∧ v (35 + 65 * i + 1) = nI m) ∧ (∀ i, i < 9 → ∃ q, q ≤ 1000 ∧ v (35 + 65 * i + 2) = nI q) ∧ (∀ i, i < 9 → v (35 + 65 * i + 3) = nI (C i)) ∧ (∀ i, i < 9 → C i ≤ 60) ∧ (∀ i, i < 9 → (C i = 0 ∧ v (35 + 65 * i + 4) = -1) ∨ ∃ f, f < C i ∧ v (35 + 65 * i + 4) = nI f) ∧ (∀ i k, i < 9 → k < C i → wV v i k < 60 ∧ v (35 + 65 * i + 5 + k) = nI (wV v i k) ∧ v (620 + 6 * wV v i k) = nI 1 ∧ H (wV v i k) = i ∧ P (wV v i k) = k) ∧ (∀ i k, i < 9 → C i ≤ k → k < 60 → v (35 + 65 * i + 5 + k) = nI 0) ∧ (∀ w, w < 60 → v (620 + 6 * w) = nI 1 → H w < 9 ∧ P w < C (H w) ∧ wV v (H w) (P w) = w) ∧ (∀ w, w < 60 → v (620 + 6 * w) = nI 0 ∨ v (620 + 6 * w) = nI 1) ∧ (∀ w, w < 60 → (v (620 + 6 * w + 1) = nI 0 ∧ ∀ c, c < 4 → v (620 + 6 * w + 2 + c) = nI 0) ∨ (v (620 + 6 * w + 1) = nI 1 ∧ v (620 + 6 * w) = nI 1)) ∧ (∀ w c, w < 60 → c < 4 → ∃ q, q ≤ 1000 ∧ v (620 + 6 * w + 2 + c) = nI q) ∧ (sumN C 9 = cntB (fun w => decide (v (620 + 6 * w) = nI 1)) 60)
theorem RI.kd {v : Nat → Int32} {C H P : Nat → Nat} (x_ : RI v C H P) : ∀ i, i < 9 → ∃ κ, κ < 6 ∧ v (35 + 65 * i) = nI κ := x_.1
theorem RI.ms {v : Nat → Int32} {C H P : Nat → Nat} (x_ : RI v C H P) : ∀ i, i < 9 → ∃ m, m ≤ 60 ∧ v (35 + 65 * i + 1) = nI m := x_.2.1
theorem RI.pt {v : Nat → Int32} {C H P : Nat → Nat} (x_ : RI v C H P) : ∀ i, i < 9 → ∃ q, q ≤ 1000 ∧ v (35 + 65 * i + 2) = nI q := x_.2.2.1
theorem RI.ct {v : Nat → Int32} {C H P : Nat → Nat} (x_ : RI v C H P) : ∀ i, i < 9 → v (35 + 65 * i + 3) = nI (C i) := x_.2.2.2.1
theorem RI.c60 {v : Nat → Int32} {C H P : Nat → Nat} (x_ : RI v C H P) : ∀ i, i < 9 → C i ≤ 60 := x_.2.2.2.2.1
theorem RI.fo {v : Nat → Int32} {C H P : Nat → Nat} (x_ : RI v C H P) : ∀ i, i < 9 → (C i = 0 ∧ v (35 + 65 * i + 4) = -1) ∨ ∃ f, f < C i ∧ v (35 + 65 * i + 4) = nI f := x_.2.2.2.2.2.1
theorem RI.od {v : Nat → Int32} {C H P : Nat → Nat} (x_ : RI v C H P) : ∀ i k, i < 9 → k < C i → wV v i k < 60 ∧ v (35 + 65 * i + 5 + k) = nI (wV v i k) ∧ v (620 + 6 * wV v i k) = nI 1 ∧ H (wV v i k) = i ∧ P (wV v i k) = k := x_.2.2.2.2.2.2.1
theorem RI.zo {v : Nat → Int32} {C H P : Nat → Nat} (x_ : RI v C H P) : ∀ i k, i < 9 → C i ≤ k → k < 60 → v (35 + 65 * i + 5 + k) = nI 0 := x_.2.2.2.2.2.2.2.1
theorem RI.hp {v : Nat → Int32} {C H P : Nat → Nat} (x_ : RI v C H P) : ∀ w, w < 60 → v (620 + 6 * w) = nI 1 → H w < 9 ∧ P w < C (H w) ∧ wV v (H w) (P w) = w := x_.2.2.2.2.2.2.2.2.1
theorem RI.th {v : Nat → Int32} {C H P : Nat → Nat} (x_ : RI v C H P) : ∀ w, w < 60 → v (620 + 6 * w) = nI 0 ∨ v (620 + 6 * w) = nI 1 := x_.2.2.2.2.2.2.2.2.2.1
theorem RI.fl {v : Nat → Int32} {C H P : Nat → Nat} (x_ : RI v C H P) : ∀ w, w < 60 → (v (620 + 6 * w + 1) = nI 0 ∧ ∀ c, c < 4 → v (620 + 6 * w + 2 + c) = nI 0) ∨ (v (620 + 6 * w + 1) = nI 1 ∧ v (620 + 6 * w) = nI 1) := x_.2.2.2.2.2.2.2.2.2.2.1
theorem RI.sh {v : Nat → Int32} {C H P : Nat → Nat} (x_ : RI v C H P) : ∀ w c, w < 60 → c < 4 → ∃ q, q ≤ 1000 ∧ v (620 + 6 * w + 2 + c) = nI q := x_.2.2.2.2.2.2.2.2.2.2.2.1
theorem RI.sm {v : Nat → Int32} {C H P : Nat → Nat} (x_ : RI v C H P) : sumN C 9 = cntB (fun w => decide (v (620 + 6 * w) = nI 1)) 60 := x_.2.2.2.2.2.2.2.2.2.2.2.2
/-- the desk at d is the vector v -/
def DV (h : pm_H) (d : Nat) (v : Nat → Int32) (n : Nat) (C H : Nat → Nat) : Prop := (DK h d) ∧ (rI h (d + 39) 2 = v 0) ∧ (rI h (d + 39) 3 = v 1) ∧ (rI h (d + 39 + 7) 1 = nI (n - 1)) ∧ (rI h (d + 39 + 9) 1 = nI (9 - n)) ∧ (∀ j, j < n → rI h (d + 39 + 6) j = v (21 + j)) ∧ (∀ j c, j < n → c < 4 → rI h (d + 39 + 2 + j) c = v (5 + 4 * j + c)) ∧ (∀ k, k < n - 1 → rI h (d + 39 + 8) k = v (2 + k)) ∧ (∀ k, k < 9 - n → rI h (d + 39 + 10) k = v (26 + k)) ∧ (∀ i c, i < 9 → c < 3 → rI h (d + 6 + 4 * i) c = v (35 + 65 * i + c)) ∧ (∀ i, i < 9 → rI h (d + 4 + 4 * i) 1 = v (35 + 65 * i + 3)) ∧ (∀ i, i < 9 → rI h (d + 3 + 4 * i) 1 = v (35 + 65 * i + 4)) ∧ (∀ i k, i < 9 → k < C i → rI h (d + 5 + 4 * i) k = v (35 + 65 * i + 5 + k)) ∧ (∀ w, w < 60 → rI h (d + 52) w = if v (620 + 6 * w) = nI 1 then nI (H w) else -1) ∧ (∀ w c, w < 60 → c < 4 → rI h (d + 51) (w * 4 + c) = v (620 + 6 * w + 2 + c)) ∧ (∀ w, (rJ h (d + 50) 0).toBitVec.getLsbD w = decide (w < 60 ∧ v (620 + 6 * w + 1) = nI 1))
theorem DV.k {h : pm_H} {d : Nat} {v : Nat → Int32} {n : Nat} {C H : Nat → Nat} (x_ : DV h d v n C H) : DK h d := x_.1
theorem DV.many {h : pm_H} {d : Nat} {v : Nat → Int32} {n : Nat} {C H : Nat → Nat} (x_ : DV h d v n C H) : rI h (d + 39) 2 = v 0 := x_.2.1
theorem DV.cur {h : pm_H} {d : Nat} {v : Nat → Int32} {n : Nat} {C H : Nat → Nat} (x_ : DV h d v n C H) : rI h (d + 39) 3 = v 1 := x_.2.2.1
theorem DV.vsz {h : pm_H} {d : Nat} {v : Nat → Int32} {n : Nat} {C H : Nat → Nat} (x_ : DV h d v n C H) : rI h (d + 39 + 7) 1 = nI (n - 1) := x_.2.2.2.1
theorem DV.hsz {h : pm_H} {d : Nat} {v : Nat → Int32} {n : Nat} {C H : Nat → Nat} (x_ : DV h d v n C H) : rI h (d + 39 + 9) 1 = nI (9 - n) := x_.2.2.2.2.1
theorem DV.ws {h : pm_H} {d : Nat} {v : Nat → Int32} {n : Nat} {C H : Nat → Nat} (x_ : DV h d v n C H) : ∀ j, j < n → rI h (d + 39 + 6) j = v (21 + j) := x_.2.2.2.2.2.1
theorem DV.bx {h : pm_H} {d : Nat} {v : Nat → Int32} {n : Nat} {C H : Nat → Nat} (x_ : DV h d v n C H) : ∀ j c, j < n → c < 4 → rI h (d + 39 + 2 + j) c = v (5 + 4 * j + c) := x_.2.2.2.2.2.2.1
theorem DV.vis {h : pm_H} {d : Nat} {v : Nat → Int32} {n : Nat} {C H : Nat → Nat} (x_ : DV h d v n C H) : ∀ k, k < n - 1 → rI h (d + 39 + 8) k = v (2 + k) := x_.2.2.2.2.2.2.2.1
theorem DV.hid {h : pm_H} {d : Nat} {v : Nat → Int32} {n : Nat} {C H : Nat → Nat} (x_ : DV h d v n C H) : ∀ k, k < 9 - n → rI h (d + 39 + 10) k = v (26 + k) := x_.2.2.2.2.2.2.2.2.1
theorem DV.lay {h : pm_H} {d : Nat} {v : Nat → Int32} {n : Nat} {C H : Nat → Nat} (x_ : DV h d v n C H) : ∀ i c, i < 9 → c < 3 → rI h (d + 6 + 4 * i) c = v (35 + 65 * i + c) := x_.2.2.2.2.2.2.2.2.2.1
theorem DV.cnt {h : pm_H} {d : Nat} {v : Nat → Int32} {n : Nat} {C H : Nat → Nat} (x_ : DV h d v n C H) : ∀ i, i < 9 → rI h (d + 4 + 4 * i) 1 = v (35 + 65 * i + 3) := x_.2.2.2.2.2.2.2.2.2.2.1
theorem DV.foc {h : pm_H} {d : Nat} {v : Nat → Int32} {n : Nat} {C H : Nat → Nat} (x_ : DV h d v n C H) : ∀ i, i < 9 → rI h (d + 3 + 4 * i) 1 = v (35 + 65 * i + 4) := x_.2.2.2.2.2.2.2.2.2.2.2.1
theorem DV.ord {h : pm_H} {d : Nat} {v : Nat → Int32} {n : Nat} {C H : Nat → Nat} (x_ : DV h d v n C H) : ∀ i k, i < 9 → k < C i → rI h (d + 5 + 4 * i) k = v (35 + 65 * i + 5 + k) := x_.2.2.2.2.2.2.2.2.2.2.2.2.1
theorem DV.hom {h : pm_H} {d : Nat} {v : Nat → Int32} {n : Nat} {C H : Nat → Nat} (x_ : DV h d v n C H) : ∀ w, w < 60 → rI h (d + 52) w = if v (620 + 6 * w) = nI 1 then nI (H w) else -1 := x_.2.2.2.2.2.2.2.2.2.2.2.2.2.1
theorem DV.shr {h : pm_H} {d : Nat} {v : Nat → Int32} {n : Nat} {C H : Nat → Nat} (x_ : DV h d v n C H) : ∀ w c, w < 60 → c < 4 → rI h (d + 51) (w * 4 + c) = v (620 + 6 * w + 2 + c) := x_.2.2.2.2.2.2.2.2.2.2.2.2.2.2.1
theorem DV.bit {h : pm_H} {d : Nat} {v : Nat → Int32} {n : Nat} {C H : Nat → Nat} (x_ : DV h d v n C H) : ∀ w, (rJ h (d + 50) 0).toBitVec.getLsbD w = decide (w < 60 ∧ v (620 + 6 * w + 1) = nI 1) := x_.2.2.2.2.2.2.2.2.2.2.2.2.2.2.2
theorem n1_0 : ¬ nI 1 = nI 0 := by decide +kernel
theorem n0_1 : ¬ nI 0 = nI 1 := by decide +kernel
section INV
variable {v : Nat → Int32} {n c : Nat} {p lo r rl C H P : Nat → Nat} {h : pm_H} {d : Nat}
theorem DV.ds (t : DV h d v n C H) (s : SI v n c p lo r rl) (q : RI v C H P) : DS h d C n c (n - 1) (9 - n) := by
  have := s.n4
  have := s.cn
  refine ⟨t.k, fun i hi => ⟨(t.cnt i hi).trans (q.ct i hi), q.c60 i hi⟩, t.k.2.2.2.2.2.2.2.2.2.1, t.many.trans s.v0, s.n4, t.cur.trans s.v1, by omega, t.vsz, by omega, t.hsz, by omega⟩
theorem SI.pj (s : SI v n c p lo r rl) {j : Nat} (hj : j < n) : p j < 9 ∧ lo (p j) = j := s.pl.1 j (by have := s.n4; omega)
theorem SI.scr_y (s : SI v n c p lo r rl) {i : Nat} (hi : i < 9) (hl : lo i < n) : scrV v n (nI i) = nI (lo i) := by
  have h2 := s.pl.2 i hi
  refine llast_at n 0 _ (by omega) (by omega) ?_ (fun j h3 h4 => ?_)
  · show v (21 + lo i) = nI i
    rw [s.sh _ hl, h2.2]
  · show ¬ v (21 + j) = nI i
    rw [s.sh j (by omega)]
    intro q
    have := s.pj (j := j) (by omega)
    have e := nI_inj (by omega) (by omega) q
    rw [e] at this
    omega
theorem SI.scr_n (s : SI v n c p lo r rl) {i : Nat} (hi : i < 9) (hl : ¬ lo i < n) : scrV v n (nI i) = -1 := by
  refine llast_no n 0 _ (fun j h3 h4 => ?_)
  show ¬ v (21 + j) = nI i
  rw [s.sh j (by omega)]
  intro q
  have := s.pj (j := j) (by omega)
  have e := nI_inj (by omega) (by omega) q
  rw [e] at this
  omega
theorem SI.fnd_y (s : SI v n c p lo r rl) (t : DV h d v n C H) {i : Nat} (hi : i < 9) (hl : lo i < n) : lfind (rI h (d + 39 + 6)) (nI i) n 0 = nI (lo i) := by
  have h2 := s.pl.2 i hi
  refine lfind_at n 0 (by omega) (by omega) ?_ (fun j h3 h4 => ?_)
  · rw [t.ws _ hl, s.sh _ hl, h2.2]
  · rw [t.ws _ (by omega), s.sh j (by omega)]
    intro q
    have := s.pj (j := j) (by omega)
    have e := nI_inj (by omega) (by omega) q
    rw [e] at this
    omega
theorem SI.fnd_n (s : SI v n c p lo r rl) (t : DV h d v n C H) {i : Nat} (hi : i < 9) (hl : ¬ lo i < n) : lfind (rI h (d + 39 + 6)) (nI i) n 0 = -1 := by
  refine lfind_no n 0 (fun j h3 h4 => ?_)
  rw [t.ws _ (by omega), s.sh j (by omega)]
  intro q
  have := s.pj (j := j) (by omega)
  have e := nI_inj (by omega) (by omega) q
  rw [e] at this
  omega
/-- a hidden workspace's place -/
theorem SI.hid_at (s : SI v n c p lo r rl) {i : Nat} (hi : i < 9) (hl : ¬ lo i < n) : lo i - n < 9 - n ∧ v (26 + (lo i - n)) = nI i ∧ ∀ q, q < lo i - n → ¬ v (26 + q) = nI i := by
  have h2 := s.pl.2 i hi
  refine ⟨by omega, ?_, fun q hq => ?_⟩
  · rw [s.hd _ (by omega), show n + (lo i - n) = lo i by omega, h2.2]
  · rw [s.hd _ (by omega)]
    intro e
    have h3 := s.pl.1 (n + q) (by omega)
    have e := nI_inj (by omega) (by omega) e
    rw [e] at h3
    omega
theorem SI.hid_fnd (s : SI v n c p lo r rl) (t : DV h d v n C H) {i : Nat} (hi : i < 9) (hl : ¬ lo i < n) : lfind (rI h (d + 39 + 10)) (nI i) (9 - n) 0 = nI (lo i - n) := by
  obtain ⟨h1, h2, h3⟩ := s.hid_at hi hl
  refine lfind_at (9 - n) 0 (by omega) (by omega) ?_ (fun j h4 h5 => ?_)
  · rw [t.hid _ h1, h2]
  · rw [t.hid _ (by omega)]; exact h3 j h5
/-- a visible screen's place in the row of visible ones -/
theorem SI.vis_at (s : SI v n c p lo r rl) {j : Nat} (hj : j < n) (hc : ¬ j = c) : 1 ≤ rl j ∧ rl j - 1 < n - 1 ∧ v (2 + (rl j - 1)) = nI j ∧ ∀ q, q < rl j - 1 → ¬ v (2 + q) = nI j := by
  have h2 := s.rr.2 j hj
  have h4 := s.n4
  have h1 : 1 ≤ rl j := by
    rcases Nat.eq_zero_or_pos (rl j) with e | e
    · rw [e, s.r0] at h2
      exact absurd h2.2.symm hc
    · exact e
  refine ⟨h1, by omega, ?_, fun q hq => ?_⟩
  · rw [s.vs _ (by omega), show rl j - 1 + 1 = rl j by omega, h2.2]
  · rw [s.vs _ (by omega)]
    intro e
    have h3 := s.rr.1 (q + 1) (by omega)
    have e := nI_inj (by omega) (by omega) e
    rw [e] at h3
    omega
theorem SI.vis_fnd (s : SI v n c p lo r rl) (t : DV h d v n C H) {j : Nat} (hj : j < n) (hc : ¬ j = c) : lfind (rI h (d + 39 + 8)) (nI j) (n - 1) 0 = nI (rl j - 1) := by
  obtain ⟨h0, h1, h2, h3⟩ := s.vis_at hj hc
  refine lfind_at (n - 1) 0 (by omega) (by omega) ?_ (fun q h4 h5 => ?_)
  · rw [t.vis _ h1, h2]
  · rw [t.vis _ (by omega)]; exact h3 q h5
theorem RI.plc_y (q : RI v C H P) {w : Nat} (hw : w < 60) (ht : v (620 + 6 * w) = nI 1) : plcV v (H w) (C (H w)) (nI w) = nI (P w) := by
  obtain ⟨h1, h2, h3⟩ := q.hp w hw ht
  have h4 := q.od _ _ h1 h2
  refine llast_at _ 0 _ (by omega) (by omega) ?_ (fun j h5 h6 => ?_)
  · show v (35 + 65 * H w + 5 + P w) = nI w
    rw [h4.2.1, h3]
  · show ¬ v (35 + 65 * H w + 5 + j) = nI w
    have h7 := q.od (H w) j h1 (by omega)
    rw [h7.2.1]
    intro e
    have e := nI_inj (by omega) (by omega) e
    rw [e] at h7
    omega
theorem RI.plc_n (q : RI v C H P) {w i : Nat} (hw : w < 60) (hi : i < 9) (ht : ¬ (v (620 + 6 * w) = nI 1 ∧ H w = i)) : plcV v i (C i) (nI w) = -1 := by
  refine llast_no _ 0 _ (fun j h5 h6 => ?_)
  show ¬ v (35 + 65 * i + 5 + j) = nI w
  have h7 := q.od i j hi (by omega)
  rw [h7.2.1]
  intro e
  have e := nI_inj (by omega) (by omega) e
  rw [e] at h7
  exact ht ⟨h7.2.2.1, h7.2.2.2.1⟩
theorem RI.hom_y (q : RI v C H P) {w : Nat} (hw : w < 60) (ht : v (620 + 6 * w) = nI 1) : homV v C (nI w) = nI (H w) := by
  obtain ⟨h1, h2, h3⟩ := q.hp w hw ht
  have hc := q.c60 _ h1
  refine llast_at 9 0 _ (by omega) (by omega) ?_ (fun j h5 h6 => ?_)
  · show (if nI 0 ≤ plcV v (H w) (C (H w)) (nI w) then nI 1 else nI 0) = nI 1
    rw [q.plc_y hw ht, if_pos (by rw [ar_le (by omega) (by omega)]; omega)]
  · show ¬ (if nI 0 ≤ plcV v j (C j) (nI w) then nI 1 else nI 0) = nI 1
    rw [q.plc_n hw (by omega) (fun e => by omega), if_neg (by decide +kernel)]
    exact n0_1
theorem RI.ord_fnd (q : RI v C H P) (t : DV h d v n C H) {w : Nat} (hw : w < 60) (ht : v (620 + 6 * w) = nI 1) : lfind (rI h (d + 5 + 4 * H w)) (nI w) (C (H w)) 0 = nI (P w) := by
  obtain ⟨h1, h2, h3⟩ := q.hp w hw ht
  have h4 := q.od _ _ h1 h2
  refine lfind_at _ 0 (by omega) (by omega) ?_ (fun j h5 h6 => ?_)
  · rw [t.ord _ _ h1 h2, h4.2.1, h3]
  · have h7 := q.od (H w) j h1 (by omega)
    rw [t.ord _ _ h1 (by omega), h7.2.1]
    intro e
    have e := nI_inj (by omega) (by omega) e
    rw [e] at h7
    omega
theorem RI.foh (q : RI v C H P) {i : Nat} (hi : i < 9) : v (35 + 65 * i + 4) = -1 ∨ ∃ f, f < 60 ∧ v (35 + 65 * i + 4) = nI f := by
  have := q.c60 i hi
  rcases q.fo i hi with ⟨_, h⟩ | ⟨f, h1, h2⟩
  · exact Or.inl h
  · exact Or.inr ⟨f, by omega, h2⟩
/-- the window in focus -/
theorem RI.foc (q : RI v C H P) {i : Nat} (hi : i < 9) : (C i = 0 ∧ v (35 + 65 * i + 4) = -1 ∧ focV v i = -1) ∨ ∃ f, f < C i ∧ v (35 + 65 * i + 4) = nI f ∧ focV v i = nI (wV v i f) := by
  have hc := q.c60 i hi
  rcases q.fo i hi with ⟨h0, h⟩ | ⟨f, h1, h2⟩
  · refine Or.inl ⟨h0, h, ?_⟩
    rw [focV, h, if_pos (by decide +kernel)]
  · refine Or.inr ⟨f, h1, h2, ?_⟩
    rw [focV, h2, if_neg (by rw [ar_lt (by omega) (by omega)]; omega), ar_cl (by omega)]
    exact (q.od i f hi h1).2.1
theorem RI.get_foc (q : RI v C H P) (t : DV h d v n C H) {i : Nat} (hi : i < 9) : lget (rI h (d + 5 + 4 * i)) (C i) (rI h (d + 3 + 4 * i) 1) = focV v i := by
  have hc := q.c60 i hi
  rw [t.foc i hi]
  rcases q.foc hi with ⟨h0, h1, h2⟩ | ⟨f, h1, h2, h3⟩
  · rw [h1, lget_m1, h2]
  · rw [h2, lget_nI h1 (by omega), t.ord i f hi h1, h3, (q.od i f hi h1).2.1]
end INV
