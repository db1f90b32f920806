/-! VIEWS: both sides -/
theorem topV_at (v : Nat → Int32) (b p : Nat) (x : Int32) (k : Nat) : topV v b p x (b + k) = if k = 0 then x else if k ≤ p then v (b + (k - 1)) else v (b + k) := by
  simp only [topV, upd_at, va_cpy]
  by_cases h0 : k = 0
  · subst h0; simp
  · rw [if_neg (by omega), if_neg h0]
    by_cases h1 : k ≤ p
    · rw [if_pos (by omega), if_pos h1]; congr 1; omega
    · rw [if_neg (by omega), if_neg h1]
theorem topV_o (v : Nat → Int32) {b p : Nat} (x : Int32) {e : Nat} (h : e < b ∨ b + p < e) : topV v b p x e = v e := by
  simp only [topV, upd_at, va_cpy]
  rw [if_neg (by omega), if_neg (by omega)]
theorem ltop_at (f : Nat → Int32) {p s : Nat} (hp : p < s) (x : Int32) {k : Nat} (hk : k < s) : ltop f p s x k = if k = 0 then x else if k ≤ p then f (k - 1) else f k := by
  simp only [ltop, lins, lrem, upd_at, va_cpy]
  by_cases h0 : k = 0
  · subst h0; simp
  · rw [if_neg h0, if_neg h0, if_pos (by omega)]
    by_cases h1 : k ≤ p
    · rw [if_neg (by omega), if_pos h1]; congr 1; omega
    · rw [if_pos (by omega), if_neg h1]; congr 1; omega
/-- the desk's screens are the vector's -/
def DVS (h : pm_H) (d : Nat) (v : Nat → Int32) (n : Nat) : Prop := (SCK h (d + 39)) ∧ (rI h (d + 39) 2 = v 0) ∧ (rI h (d + 39) 3 = v 1) ∧ (rI h (d + 39 + 7) 1 = nI (n - 1)) ∧ (rI h (d + 39 + 9) 1 = nI (9 - n)) ∧ (∀ j, j < n → rI h (d + 39 + 6) j = v (21 + j)) ∧ (∀ j c, j < n → c < 4 → rI h (d + 39 + 2 + j) c = v (5 + 4 * j + c)) ∧ (∀ k, k < n - 1 → rI h (d + 39 + 8) k = v (2 + k)) ∧ (∀ k, k < 9 - n → rI h (d + 39 + 10) k = v (26 + k))
theorem DVS.k {h : pm_H} {d : Nat} {v : Nat → Int32} {n : Nat} (x_ : DVS h d v n) : SCK h (d + 39) := x_.1
theorem DVS.many {h : pm_H} {d : Nat} {v : Nat → Int32} {n : Nat} (x_ : DVS h d v n) : rI h (d + 39) 2 = v 0 := x_.2.1
theorem DVS.cur {h : pm_H} {d : Nat} {v : Nat → Int32} {n : Nat} (x_ : DVS h d v n) : rI h (d + 39) 3 = v 1 := x_.2.2.1
theorem DVS.vsz {h : pm_H} {d : Nat} {v : Nat → Int32} {n : Nat} (x_ : DVS h d v n) : rI h (d + 39 + 7) 1 = nI (n - 1) := x_.2.2.2.1
theorem DVS.hsz {h : pm_H} {d : Nat} {v : Nat → Int32} {n : Nat} (x_ : DVS h d v n) : rI h (d + 39 + 9) 1 = nI (9 - n) := x_.2.2.2.2.1
theorem DVS.ws {h : pm_H} {d : Nat} {v : Nat → Int32} {n : Nat} (x_ : DVS h d v n) : ∀ j, j < n → rI h (d + 39 + 6) j = v (21 + j) := x_.2.2.2.2.2.1
theorem DVS.bx {h : pm_H} {d : Nat} {v : Nat → Int32} {n : Nat} (x_ : DVS h d v n) : ∀ j c, j < n → c < 4 → rI h (d + 39 + 2 + j) c = v (5 + 4 * j + c) := x_.2.2.2.2.2.2.1
theorem DVS.vis {h : pm_H} {d : Nat} {v : Nat → Int32} {n : Nat} (x_ : DVS h d v n) : ∀ k, k < n - 1 → rI h (d + 39 + 8) k = v (2 + k) := x_.2.2.2.2.2.2.2.1
theorem DVS.hid {h : pm_H} {d : Nat} {v : Nat → Int32} {n : Nat} (x_ : DVS h d v n) : ∀ k, k < 9 - n → rI h (d + 39 + 10) k = v (26 + k) := x_.2.2.2.2.2.2.2.2
/-- only the cells from a on up to b differ -/
def FRD (a b : Nat) (h h' : pm_H) : Prop := (rK h' = rK h) ∧ (rP h' = rP h) ∧ (rz h' = rz h) ∧ (rs h' = rs h) ∧ (∀ q, q < a ∨ b ≤ q → rI h' q = rI h q) ∧ (∀ q, q < a ∨ b ≤ q → rJ h' q = rJ h q)
theorem FRD.fk {a b : Nat} {h h' : pm_H} (x_ : FRD a b h h') : rK h' = rK h := x_.1
theorem FRD.fp {a b : Nat} {h h' : pm_H} (x_ : FRD a b h h') : rP h' = rP h := x_.2.1
theorem FRD.fz {a b : Nat} {h h' : pm_H} (x_ : FRD a b h h') : rz h' = rz h := x_.2.2.1
theorem FRD.fs {a b : Nat} {h h' : pm_H} (x_ : FRD a b h h') : rs h' = rs h := x_.2.2.2.1
theorem FRD.fi {a b : Nat} {h h' : pm_H} (x_ : FRD a b h h') : ∀ q, q < a ∨ b ≤ q → rI h' q = rI h q := x_.2.2.2.2.1
theorem FRD.fj {a b : Nat} {h h' : pm_H} (x_ : FRD a b h h') : ∀ q, q < a ∨ b ≤ q → rJ h' q = rJ h q := x_.2.2.2.2.2
theorem FRD.rf (a b : Nat) (h : pm_H) : FRD a b h h := ⟨rfl, rfl, rfl, rfl, fun _ _ => rfl, fun _ _ => rfl⟩
theorem FRD.tr {a b : Nat} {x y z : pm_H} (s : FRD a b x y) (t : FRD a b y z) : FRD a b x z := ⟨t.fk.trans s.fk, t.fp.trans s.fp, t.fz.trans s.fz, t.fs.trans s.fs, fun q hq => (t.fi q hq).trans (s.fi q hq), fun q hq => (t.fj q hq).trans (s.fj q hq)⟩
theorem FRD.mono {a b a' b' : Nat} {x y : pm_H} (s : FRD a b x y) (h1 : a' ≤ a) (h2 : b ≤ b') : FRD a' b' x y := ⟨s.fk, s.fp, s.fz, s.fs, fun q hq => s.fi q (by omega), fun q hq => s.fj q (by omega)⟩
theorem FRD.uA {a b : Nat} (h : pm_H) {q : Nat} (h1 : a ≤ q) (h2 : q < b) (f : Nat → Int32) : FRD a b h (uA h q f) := ⟨rfl, rfl, rfl, rfl, fun z hz => by rw [rI_uA, if_neg (by omega)], fun z hz => rfl⟩
theorem FRD.uI {a b : Nat} (h : pm_H) {q : Nat} (h1 : a ≤ q) (h2 : q < b) (k : Nat) (x : Int32) : FRD a b h (uI h q k x) := FRD.uA h h1 h2 _
theorem FRD.uJ {a b : Nat} (h : pm_H) {q : Nat} (h1 : a ≤ q) (h2 : q < b) (k : Nat) (x : Int64) : FRD a b h (uJ h q k x) := ⟨rfl, rfl, rfl, rfl, fun z hz => rfl, fun z hz => by rw [rJ_uJ, if_neg (by omega)]⟩
section VW
variable {v : Nat → Int32} {n c : Nat} {p lo r rl : Nat → Nat} {h : pm_H} {d : Nat}
theorem DVS.sc (t : DVS h d v n) (s : SI v n c p lo r rl) : SC h (d + 39) n c (n - 1) (9 - n) := by
  have := s.n4
  have := s.cn
  exact ⟨t.k, t.many.trans s.v0, s.n4, t.cur.trans s.v1, by omega, t.vsz, by omega, t.hsz, by omega⟩
theorem SI.dfnd_y (s : SI v n c p lo r rl) (t : DVS h d v n) {i : Nat} (hi : i < 9) (hl : lo i < n) : lfind (rI h (d + 39 + 6)) (nI i) n 0 = nI (lo i) := by
  have h2 := s.pl.2 i hi
  refine lfind_at n 0 (by omega) (by omega) ?_ (fun j h3 h4 => ?_)
  · rw [t.ws _ hl, s.sh _ hl, h2.2]
  · rw [t.ws _ (by omega), s.sh j (by omega)]
    intro q
    have := s.pj (j := j) (by omega)
    have e := nI_inj (by omega) (by omega) q
    rw [e] at this
    omega
theorem SI.dfnd_n (s : SI v n c p lo r rl) (t : DVS h d v n) {i : Nat} (hi : i < 9) (hl : ¬ lo i < n) : lfind (rI h (d + 39 + 6)) (nI i) n 0 = -1 := by
  refine lfind_no n 0 (fun j h3 h4 => ?_)
  rw [t.ws _ (by omega), s.sh j (by omega)]
  intro q
  have := s.pj (j := j) (by omega)
  have e := nI_inj (by omega) (by omega) q
  rw [e] at this
  omega
theorem SI.dhid (s : SI v n c p lo r rl) (t : DVS h d v n) {i : Nat} (hi : i < 9) (hl : ¬ lo i < n) : lfind (rI h (d + 39 + 10)) (nI i) (9 - n) 0 = nI (lo i - n) := by
  obtain ⟨h1, h2, h3⟩ := s.hid_at hi hl
  refine lfind_at (9 - n) 0 (by omega) (by omega) ?_ (fun j h4 h5 => ?_)
  · rw [t.hid _ h1, h2]
  · rw [t.hid _ (by omega)]; exact h3 j h5
theorem SI.dvis (s : SI v n c p lo r rl) (t : DVS h d v n) {j : Nat} (hj : j < n) (hc : ¬ j = c) : lfind (rI h (d + 39 + 8)) (nI j) (n - 1) 0 = nI (rl j - 1) := by
  obtain ⟨h0, h1, h2, h3⟩ := s.vis_at hj hc
  refine lfind_at (n - 1) 0 (by omega) (by omega) ?_ (fun q h4 h5 => ?_)
  · rw [t.vis _ h1, h2]
  · rw [t.vis _ (by omega)]; exact h3 q h5
/-- what a view leaves -/
def VW (v v' : Nat → Int32) (n : Nat) : Prop := (∀ e, 35 ≤ e → v' e = v e) ∧ v' 0 = v 0 ∧ ∀ e, 5 ≤ e → e < 21 → v' e = v e
theorem vh_si (s : SI v n c p lo r rl) {i : Nat} (hi : i < 9) (hl : ¬ lo i < n) : ∃ p' lo', SI (vhV v c (lo i - n) (nI i)) n c p' lo' r rl := by
  obtain ⟨h1, h2, h3⟩ := s.hid_at hi hl
  have cn := s.cn
  have n4 := s.n4
  have n1 := s.n1
  have L9 := (s.pl.2 i hi).1
  have Lp := (s.pl.2 i hi).2
  generalize hL : lo i = L at *
  have hnL : n ≤ L := by omega
  refine ⟨fun k => p (if k = c then L else if k = n then c else if n < k ∧ k ≤ L then k - 1 else k), fun k => (fun k => if k = L then c else if k = c then n else if n ≤ k ∧ k < L then k + 1 else k) (lo k), ?_⟩
  have eA : ∀ e, e < 26 → ¬ e = 21 + c → vhV v c (L - n) (nI i) e = v e := fun e he hc => by
    rw [vhV, upd_at, if_neg hc, topV_o _ _ (by omega)]
  have eH : ∀ k, k < 9 → vhV v c (L - n) (nI i) (26 + k) = if k = 0 then v (21 + c) else if k ≤ L - n then v (26 + (k - 1)) else v (26 + k) := fun k hk => by
    rw [vhV, upd_at, if_neg (by omega), topV_at]
  refine ⟨n1, n4, cn, by rw [eA 0 (by omega) (by omega)]; exact s.v0, by rw [eA 1 (by omega) (by omega)]; exact s.v1, by rw [eA 25 (by omega) (by omega)]; exact s.v25, fun j hj => ?_, fun k hk => ?_, PI.comp (σ := fun k => if k = c then L else if k = n then c else if n < k ∧ k ≤ L then k - 1 else k) (τ := fun k => if k = L then c else if k = c then n else if n ≤ k ∧ k < L then k + 1 else k) s.pl ⟨fun k hk => ?_, fun k hk => ?_⟩, s.r0, fun k hk => by rw [eA _ (by omega) (by omega)]; exact s.vs k hk, s.rr, fun j h1 h2 => by rw [eA _ (by omega) (by omega)]; exact s.zs j h1 h2, fun k h1 h2 => ?_, fun k h1 h2 => by rw [eA _ (by omega) (by omega)]; exact s.zv k h1 h2, fun e h1 h2 => by rw [eA _ (by omega) (by omega)]; exact s.zb e h1 h2, fun j hj => ?_⟩
  · by_cases e : j = c
    · subst e
      rw [vhV, upd_at, if_pos rfl]
      simp only [if_true]
      rw [Lp]
    · rw [eA _ (by omega) (by omega), s.sh j hj]
      simp only [e, if_false, show ¬ j = n by omega, show ¬ (n < j ∧ j ≤ L) by omega]
  · rw [eH k (by omega)]
    by_cases k0 : k = 0
    · subst k0
      simp only [if_true, show ¬ n + 0 = c by omega, show n + 0 = n by omega, if_false]
      simp only [show ¬ n = c by omega, if_false]
      exact s.sh c cn
    · rw [if_neg k0]
      by_cases k1 : k ≤ L - n
      · rw [if_pos k1, s.hd _ (by omega)]
        simp only [show ¬ n + k = c by omega, show ¬ n + k = n by omega, show n < n + k ∧ n + k ≤ L by omega, if_false, if_true, and_self]
        congr 2
        omega
      · rw [if_neg k1, s.hd _ (by omega)]
        simp only [show ¬ n + k = c by omega, show ¬ n + k = n by omega, show ¬ (n < n + k ∧ n + k ≤ L) by omega, if_false]
  · simp only
    by_cases e4 : k = c
    · rw [if_pos e4, if_pos rfl]; omega
    · rw [if_neg e4]
      by_cases e6 : k = n
      · rw [if_pos e6, if_neg (by omega), if_pos rfl]; omega
      · rw [if_neg e6]
        by_cases e8 : n < k ∧ k ≤ L
        · rw [if_pos e8, if_neg (by omega), if_neg (by omega), if_pos (by omega)]; omega
        · rw [if_neg e8]
          rw [if_neg (by omega), if_neg (by omega), if_neg (by omega)]; omega
  · simp only
    by_cases e4 : k = L
    · rw [if_pos e4, if_pos rfl]; omega
    · rw [if_neg e4]
      by_cases e6 : k = c
      · rw [if_pos e6, if_neg (by omega), if_pos rfl]; omega
      · rw [if_neg e6]
        by_cases e8 : n ≤ k ∧ k < L
        · rw [if_pos e8, if_neg (by omega), if_neg (by omega), if_pos (by omega)]; omega
        · rw [if_neg e8]
          rw [if_neg (by omega), if_neg (by omega), if_neg (by omega)]; omega
  · rw [eH k h2, if_neg (by omega), if_neg (by omega)]; exact s.zh k h1 h2
  · have := s.bx j hj
    simp only [bxV] at this ⊢
    rw [eA _ (by omega) (by omega), eA _ (by omega) (by omega), eA _ (by omega) (by omega), eA _ (by omega) (by omega)]
    exact this
theorem vn_si (s : SI v n c p lo r rl) {j : Nat} (hj : j < n) (hc : ¬ j = c) : ∃ r' rl', SI (vnV v c j (rl j - 1)) n j p lo r' rl' := by
  obtain ⟨h0, h1, h2, h3⟩ := s.vis_at hj hc
  have cn := s.cn
  have n4 := s.n4
  have n1 := s.n1
  have Ln := (s.rr.2 j hj).1
  have Lp := (s.rr.2 j hj).2
  generalize hL : rl j = L at *
  have eA : ∀ e, ¬ e = 1 → (e < 2 ∨ 5 ≤ e) → vnV v c j (L - 1) e = v e := fun e h1 h2 => by
    rw [vnV, upd_at, if_neg h1, topV_o _ _ (by omega)]
  have eH : ∀ k, k < 3 → vnV v c j (L - 1) (2 + k) = if k = 0 then nI c else if k ≤ L - 1 then v (2 + (k - 1)) else v (2 + k) := fun k hk => by
    rw [vnV, upd_at, if_neg (by omega), topV_at]
  refine ⟨fun k => r (if k = 0 then L else if k ≤ L then k - 1 else k), fun k => (fun k => if k = L then 0 else if k < L then k + 1 else k) (rl k), ?_⟩
  refine ⟨n1, n4, hj, by rw [eA 0 (by omega) (by omega)]; exact s.v0, by rw [vnV, upd_at, if_pos rfl], by rw [eA 25 (by omega) (by omega)]; exact s.v25, fun j hj => by rw [eA _ (by omega) (by omega)]; exact s.sh j hj, fun k hk => by rw [eA _ (by omega) (by omega)]; exact s.hd k hk, s.pl, Lp, fun k hk => ?_, PI.comp (σ := fun k => if k = 0 then L else if k ≤ L then k - 1 else k) (τ := fun k => if k = L then 0 else if k < L then k + 1 else k) s.rr ⟨fun k hk => ?_, fun k hk => ?_⟩, fun j h1 h2 => by rw [eA _ (by omega) (by omega)]; exact s.zs j h1 h2, fun k h1 h2 => by rw [eA _ (by omega) (by omega)]; exact s.zh k h1 h2, fun k h1 h2 => ?_, fun e h1 h2 => by rw [eA _ (by omega) (by omega)]; exact s.zb e h1 h2, fun j hj => ?_⟩
  · rw [eH k (by omega)]
    simp only [show ¬ k + 1 = 0 by omega, if_false]
    by_cases k0 : k = 0
    · subst k0
      rw [if_pos rfl, if_pos (by omega)]
      show nI c = nI (r 0)
      rw [s.r0]
    · rw [if_neg k0]
      by_cases k1 : k ≤ L - 1
      · rw [if_pos k1, if_pos (by omega), s.vs _ (by omega)]
        congr 2
        omega
      · rw [if_neg k1, if_neg (by omega), s.vs _ (by omega)]
  · simp only
    by_cases e4 : k = 0
    · rw [if_pos e4, if_pos rfl]; omega
    · rw [if_neg e4]
      by_cases e6 : k ≤ L
      · rw [if_pos e6, if_neg (by omega), if_pos (by omega)]; omega
      · rw [if_neg e6]
        rw [if_neg (by omega), if_neg (by omega)]; omega
  · simp only
    by_cases e4 : k = L
    · rw [if_pos e4, if_pos rfl]; omega
    · rw [if_neg e4]
      by_cases e6 : k < L
      · rw [if_pos e6, if_neg (by omega), if_pos (by omega)]; omega
      · rw [if_neg e6]
        rw [if_neg (by omega), if_neg (by omega)]; omega
  · rw [eH k h2, if_neg (by omega), if_neg (by omega)]; exact s.zv k h1 h2
  · have := s.bx j hj
    simp only [bxV] at this ⊢
    rw [eA _ (by omega) (by omega), eA _ (by omega) (by omega), eA _ (by omega) (by omega), eA _ (by omega) (by omega)]
    exact this
theorem vg_si (s : SI v n c p lo r rl) {i j : Nat} (hi : i < 9) (hij : lo i = j) (hj : j < n) (hc : ¬ j = c) : ∃ p' lo' r' rl', SI (vgV v c j (rl j - 1) (nI i)) n c p' lo' r' rl' := by
  obtain ⟨h0, h1, h2, h3⟩ := s.vis_at hj hc
  have cn := s.cn
  have n4 := s.n4
  have n1 := s.n1
  have Ln := (s.rr.2 j hj).1
  have Lp := (s.rr.2 j hj).2
  have pi := (s.pl.2 i hi).2
  generalize hL : rl j = L at *
  have eA : ∀ e, (e < 2 ∨ 5 ≤ e) → ¬ e = 21 + c → ¬ e = 21 + j → vgV v c j (L - 1) (nI i) e = v e := fun e h1 h2 h3 => by
    rw [vgV, topV_o _ _ (by omega), upd_at, if_neg h3, upd_at, if_neg h2]
  have eW : ∀ k, k < n → vgV v c j (L - 1) (nI i) (21 + k) = if k = j then v (21 + c) else if k = c then nI i else v (21 + k) := fun k hk => by
    rw [vgV, topV_o _ _ (by omega), upd_at, upd_at]
    by_cases e1 : k = j
    · rw [if_pos (by omega), if_pos e1]
    · rw [if_neg (by omega), if_neg e1]
      by_cases e2 : k = c
      · rw [if_pos (by omega), if_pos e2]
      · rw [if_neg (by omega), if_neg e2]
  have eH : ∀ k, k < 3 → vgV v c j (L - 1) (nI i) (2 + k) = if k = 0 then nI j else if k ≤ L - 1 then v (2 + (k - 1)) else v (2 + k) := fun k hk => by
    have z : ∀ e, e < 21 → upd (upd v (21 + c) (nI i)) (21 + j) (v (21 + c)) e = v e := fun e he => by
      rw [upd_at, if_neg (by omega), upd_at, if_neg (by omega)]
    rw [vgV, topV_at, z _ (by omega), z _ (by omega)]
  refine ⟨fun k => p (if k = c then j else if k = j then c else k), fun k => (fun k => if k = c then j else if k = j then c else k) (lo k), fun k => r (if k = 0 then 0 else if k = 1 then L else if k ≤ L then k - 1 else k), fun k => (fun k => if k = 0 then 0 else if k = L then 1 else if k < L then k + 1 else k) (rl k), ?_⟩
  refine ⟨n1, n4, cn, by rw [eA 0 (by omega) (by omega) (by omega)]; exact s.v0, by rw [eA 1 (by omega) (by omega) (by omega)]; exact s.v1, by rw [eA 25 (by omega) (by omega) (by omega)]; exact s.v25, fun k hk => ?_, fun k hk => ?_, PI.comp (σ := fun k => if k = c then j else if k = j then c else k) (τ := fun k => if k = c then j else if k = j then c else k) s.pl ⟨fun k hk => ?_, fun k hk => ?_⟩, s.r0, fun k hk => ?_, PI.comp (σ := fun k => if k = 0 then 0 else if k = 1 then L else if k ≤ L then k - 1 else k) (τ := fun k => if k = 0 then 0 else if k = L then 1 else if k < L then k + 1 else k) s.rr ⟨fun k hk => ?_, fun k hk => ?_⟩, fun j h1 h2 => by rw [eA _ (by omega) (by omega) (by omega)]; exact s.zs j h1 h2, fun k h1 h2 => by rw [eA _ (by omega) (by omega) (by omega)]; exact s.zh k h1 h2, fun k h1 h2 => ?_, fun e h1 h2 => by rw [eA _ (by omega) (by omega) (by omega)]; exact s.zb e h1 h2, fun j hj => ?_⟩
  · rw [eW k hk]
    by_cases e1 : k = j
    · subst e1
      rw [if_pos rfl]
      simp only [hc, if_false, if_true]
      exact s.sh c cn
    · rw [if_neg e1]
      by_cases e2 : k = c
      · subst e2
        simp only [if_true]
        rw [← hij, pi]
      · simp only [e1, e2, if_false]
        exact s.sh k hk
  · rw [eA _ (by omega) (by omega) (by omega)]
    simp only [show ¬ n + k = c by omega, show ¬ n + k = j by omega, if_false]
    exact s.hd k hk
  · simp only
    by_cases e4 : k = c
    · rw [if_pos e4, if_neg (by omega), if_pos (by omega)]; omega
    · rw [if_neg e4]
      by_cases e6 : k = j
      · rw [if_pos e6, if_pos rfl]; omega
      · rw [if_neg e6]
        rw [if_neg (by omega), if_neg (by omega)]; omega
  · simp only
    by_cases e4 : k = c
    · rw [if_pos e4, if_neg (by omega), if_pos (by omega)]; omega
    · rw [if_neg e4]
      by_cases e6 : k = j
      · rw [if_pos e6, if_pos rfl]; omega
      · rw [if_neg e6]
        rw [if_neg (by omega), if_neg (by omega)]; omega
  · rw [eH k (by omega)]
    simp only [show ¬ k + 1 = 0 by omega, if_false]
    by_cases k0 : k = 0
    · subst k0
      rw [if_pos rfl, if_pos (by omega), Lp]
    · rw [if_neg k0, if_neg (show ¬ k + 1 = 1 by omega)]
      by_cases k1 : k ≤ L - 1
      · rw [if_pos k1, if_pos (by omega), s.vs _ (by omega)]
        congr 2
        omega
      · rw [if_neg k1, if_neg (by omega), s.vs _ (by omega)]
  · simp only
    by_cases e4 : k = 0
    · rw [if_pos e4, if_pos rfl]; omega
    · rw [if_neg e4]
      by_cases e6 : k = 1
      · rw [if_pos e6, if_neg (by omega), if_pos rfl]; omega
      · rw [if_neg e6]
        by_cases e8 : k ≤ L
        · rw [if_pos e8, if_neg (by omega), if_neg (by omega), if_pos (by omega)]; omega
        · rw [if_neg e8]
          rw [if_neg (by omega), if_neg (by omega), if_neg (by omega)]; omega
  · simp only
    by_cases e4 : k = 0
    · rw [if_pos e4, if_pos rfl]; omega
    · rw [if_neg e4]
      by_cases e6 : k = L
      · rw [if_pos e6, if_neg (by omega), if_pos rfl]; omega
      · rw [if_neg e6]
        by_cases e8 : k < L
        · rw [if_pos e8, if_neg (by omega), if_neg (by omega), if_pos (by omega)]; omega
        · rw [if_neg e8]
          rw [if_neg (by omega), if_neg (by omega), if_neg (by omega)]; omega
  · rw [eH k h2, if_neg (by omega), if_neg (by omega)]; exact s.zv k h1 h2
  · have := s.bx j hj
    simp only [bxV] at this ⊢
    rw [eA _ (by omega) (by omega) (by omega), eA _ (by omega) (by omega) (by omega), eA _ (by omega) (by omega) (by omega), eA _ (by omega) (by omega) (by omega)]
    exact this
end VW
