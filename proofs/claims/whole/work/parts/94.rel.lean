/-! THE RELATION -/
def GD (h : pm_H) (a : Nat) (v : Nat → Int32) : Prop := ∃ (n c : Nat) (p lo r rl C H P : Nat → Nat), SI v n c p lo r rl ∧ RI v C H P ∧ DV h a v n C H
theorem GD.cgv {h : pm_H} {a : Nat} {v v' : Nat → Int32} (g : GD h a v) (e : ∀ x, x < 980 → v' x = v x) : GD h a v' := by
  obtain ⟨n, c, p, lo, r, rl, C, H, P, s, q, t⟩ := g
  exact ⟨n, c, p, lo, r, rl, C, H, P, s.cg (fun x hx => e x (by omega)), q.cg (fun x _ hx => e x hx), t.cgv s.n4 q.c60 e⟩
theorem GD.cgl {h h' : pm_H} {a : Nat} {v : Nat → Int32} (g : GD h a v) (e : ∀ q, a ≤ q → q < a + 53 → SQ h h' q) : GD h' a v := by
  obtain ⟨n, c, p, lo, r, rl, C, H, P, s, q, t⟩ := g
  exact ⟨n, c, p, lo, r, rl, C, H, P, s, q, t.cgl s.n4 e⟩
/-- where a desk may lie -/
def DA (X z a : Nat) : Prop := a = X + 1 ∨ a = X + 54 ∨ ∃ q, a = X + 131 + 53 * q ∧ a + 53 ≤ z
theorem DA.dj {X z z' a b : Nat} (x : DA X z a) (y : DA X z' b) (h : ¬ a = b) : a + 53 ≤ b ∨ b + 53 ≤ a := by
  rcases x with x | x | ⟨q, x, x2⟩ <;> rcases y with y | y | ⟨r, y, y2⟩ <;> omega
theorem DA.lo {X z a : Nat} (x : DA X z a) : X + 1 ≤ a ∧ (a + 53 ≤ X + 107 ∨ X + 131 ≤ a) := by
  rcases x with x | x | ⟨q, x, x2⟩ <;> omega
theorem DA.hi {X z a : Nat} (x : DA X z a) (hz : X + 131 ≤ z) : a + 53 ≤ z := by
  rcases x with x | x | ⟨q, x, x2⟩ <;> omega
theorem DA.mono {X z z' a : Nat} (x : DA X z a) (h : z ≤ z') : DA X z' a := by
  rcases x with x | x | ⟨q, x, x2⟩
  · exact Or.inl x
  · exact Or.inr (Or.inl x)
  · exact Or.inr (Or.inr ⟨q, x, by omega⟩)
def XR (h : pm_H) (X : Nat) (hd : Nat) (un : Nat) (V : Nat → Nat → Int32) (wt : Nat) (W : Nat → Int32) (d : Nat) (B : Nat) (F : Nat) (Sl : Nat → Option Nat) : Prop := (XK h X) ∧ (∃ q, rz h = X + 131 + 53 * q) ∧ (rP h X 0 = some d) ∧ (rP h X 1 = some B) ∧ (hd + un ≤ 40) ∧ (F < 40) ∧ (rI h (X + 107) 1 = nI F) ∧ (rI h (X + 107) 2 = nI hd) ∧ (rI h (X + 107) 3 = nI un) ∧ (∀ k, k < 40 → rP h (X + 108) k = Sl k) ∧ (DA X (rz h) d) ∧ (DA X (rz h) B) ∧ (DK h B) ∧ (¬ d = B) ∧ (∀ k a, k < 40 → Sl k = some a → DA X (rz h) a ∧ DK h a ∧ ¬ a = d ∧ ¬ a = B) ∧ (∀ k l a, k < 40 → l < 40 → Sl k = some a → Sl l = some a → k = l) ∧ (GD h d (V hd)) ∧ (∀ j, j < hd + un → ∃ a, Sl ((F + j) % 40) = some a ∧ GD h a (V (if j < hd then j else j + 1))) ∧ (wt ≤ 4) ∧ (rI h X 4 = nI wt) ∧ (∀ j c, j < wt → c < 4 → rI h (X + 110 + j) c = W (4 * j + c)) ∧ (∀ j, j < wt → (-10000 ≤ (W (4 * j)).toInt ∧ (W (4 * j)).toInt ≤ 10000) ∧ (-10000 ≤ (W (4 * j + 1)).toInt ∧ (W (4 * j + 1)).toInt ≤ 10000) ∧ (1 ≤ (W (4 * j + 2)).toInt ∧ (W (4 * j + 2)).toInt ≤ 10000) ∧ (1 ≤ (W (4 * j + 3)).toInt ∧ (W (4 * j + 3)).toInt ≤ 10000))
theorem XR.xk {h : pm_H} {X : Nat} {hd : Nat} {un : Nat} {V : Nat → Nat → Int32} {wt : Nat} {W : Nat → Int32} {d : Nat} {B : Nat} {F : Nat} {Sl : Nat → Option Nat} (x_ : XR h X hd un V wt W d B F Sl) : XK h X := x_.1
theorem XR.zz {h : pm_H} {X : Nat} {hd : Nat} {un : Nat} {V : Nat → Nat → Int32} {wt : Nat} {W : Nat → Int32} {d : Nat} {B : Nat} {F : Nat} {Sl : Nat → Option Nat} (x_ : XR h X hd un V wt W d B F Sl) : ∃ q, rz h = X + 131 + 53 * q := x_.2.1
theorem XR.pd {h : pm_H} {X : Nat} {hd : Nat} {un : Nat} {V : Nat → Nat → Int32} {wt : Nat} {W : Nat → Int32} {d : Nat} {B : Nat} {F : Nat} {Sl : Nat → Option Nat} (x_ : XR h X hd un V wt W d B F Sl) : rP h X 0 = some d := x_.2.2.1
theorem XR.pb {h : pm_H} {X : Nat} {hd : Nat} {un : Nat} {V : Nat → Nat → Int32} {wt : Nat} {W : Nat → Int32} {d : Nat} {B : Nat} {F : Nat} {Sl : Nat → Option Nat} (x_ : XR h X hd un V wt W d B F Sl) : rP h X 1 = some B := x_.2.2.2.1
theorem XR.hu {h : pm_H} {X : Nat} {hd : Nat} {un : Nat} {V : Nat → Nat → Int32} {wt : Nat} {W : Nat → Int32} {d : Nat} {B : Nat} {F : Nat} {Sl : Nat → Option Nat} (x_ : XR h X hd un V wt W d B F Sl) : hd + un ≤ 40 := x_.2.2.2.2.1
theorem XR.f40 {h : pm_H} {X : Nat} {hd : Nat} {un : Nat} {V : Nat → Nat → Int32} {wt : Nat} {W : Nat → Int32} {d : Nat} {B : Nat} {F : Nat} {Sl : Nat → Option Nat} (x_ : XR h X hd un V wt W d B F Sl) : F < 40 := x_.2.2.2.2.2.1
theorem XR.f1 {h : pm_H} {X : Nat} {hd : Nat} {un : Nat} {V : Nat → Nat → Int32} {wt : Nat} {W : Nat → Int32} {d : Nat} {B : Nat} {F : Nat} {Sl : Nat → Option Nat} (x_ : XR h X hd un V wt W d B F Sl) : rI h (X + 107) 1 = nI F := x_.2.2.2.2.2.2.1
theorem XR.f2 {h : pm_H} {X : Nat} {hd : Nat} {un : Nat} {V : Nat → Nat → Int32} {wt : Nat} {W : Nat → Int32} {d : Nat} {B : Nat} {F : Nat} {Sl : Nat → Option Nat} (x_ : XR h X hd un V wt W d B F Sl) : rI h (X + 107) 2 = nI hd := x_.2.2.2.2.2.2.2.1
theorem XR.f3 {h : pm_H} {X : Nat} {hd : Nat} {un : Nat} {V : Nat → Nat → Int32} {wt : Nat} {W : Nat → Int32} {d : Nat} {B : Nat} {F : Nat} {Sl : Nat → Option Nat} (x_ : XR h X hd un V wt W d B F Sl) : rI h (X + 107) 3 = nI un := x_.2.2.2.2.2.2.2.2.1
theorem XR.sl {h : pm_H} {X : Nat} {hd : Nat} {un : Nat} {V : Nat → Nat → Int32} {wt : Nat} {W : Nat → Int32} {d : Nat} {B : Nat} {F : Nat} {Sl : Nat → Option Nat} (x_ : XR h X hd un V wt W d B F Sl) : ∀ k, k < 40 → rP h (X + 108) k = Sl k := x_.2.2.2.2.2.2.2.2.2.1
theorem XR.od {h : pm_H} {X : Nat} {hd : Nat} {un : Nat} {V : Nat → Nat → Int32} {wt : Nat} {W : Nat → Int32} {d : Nat} {B : Nat} {F : Nat} {Sl : Nat → Option Nat} (x_ : XR h X hd un V wt W d B F Sl) : DA X (rz h) d := x_.2.2.2.2.2.2.2.2.2.2.1
theorem XR.ob {h : pm_H} {X : Nat} {hd : Nat} {un : Nat} {V : Nat → Nat → Int32} {wt : Nat} {W : Nat → Int32} {d : Nat} {B : Nat} {F : Nat} {Sl : Nat → Option Nat} (x_ : XR h X hd un V wt W d B F Sl) : DA X (rz h) B := x_.2.2.2.2.2.2.2.2.2.2.2.1
theorem XR.kb {h : pm_H} {X : Nat} {hd : Nat} {un : Nat} {V : Nat → Nat → Int32} {wt : Nat} {W : Nat → Int32} {d : Nat} {B : Nat} {F : Nat} {Sl : Nat → Option Nat} (x_ : XR h X hd un V wt W d B F Sl) : DK h B := x_.2.2.2.2.2.2.2.2.2.2.2.2.1
theorem XR.db {h : pm_H} {X : Nat} {hd : Nat} {un : Nat} {V : Nat → Nat → Int32} {wt : Nat} {W : Nat → Int32} {d : Nat} {B : Nat} {F : Nat} {Sl : Nat → Option Nat} (x_ : XR h X hd un V wt W d B F Sl) : ¬ d = B := x_.2.2.2.2.2.2.2.2.2.2.2.2.2.1
theorem XR.os {h : pm_H} {X : Nat} {hd : Nat} {un : Nat} {V : Nat → Nat → Int32} {wt : Nat} {W : Nat → Int32} {d : Nat} {B : Nat} {F : Nat} {Sl : Nat → Option Nat} (x_ : XR h X hd un V wt W d B F Sl) : ∀ k a, k < 40 → Sl k = some a → DA X (rz h) a ∧ DK h a ∧ ¬ a = d ∧ ¬ a = B := x_.2.2.2.2.2.2.2.2.2.2.2.2.2.2.1
theorem XR.inj {h : pm_H} {X : Nat} {hd : Nat} {un : Nat} {V : Nat → Nat → Int32} {wt : Nat} {W : Nat → Int32} {d : Nat} {B : Nat} {F : Nat} {Sl : Nat → Option Nat} (x_ : XR h X hd un V wt W d B F Sl) : ∀ k l a, k < 40 → l < 40 → Sl k = some a → Sl l = some a → k = l := x_.2.2.2.2.2.2.2.2.2.2.2.2.2.2.2.1
theorem XR.gd {h : pm_H} {X : Nat} {hd : Nat} {un : Nat} {V : Nat → Nat → Int32} {wt : Nat} {W : Nat → Int32} {d : Nat} {B : Nat} {F : Nat} {Sl : Nat → Option Nat} (x_ : XR h X hd un V wt W d B F Sl) : GD h d (V hd) := x_.2.2.2.2.2.2.2.2.2.2.2.2.2.2.2.2.1
theorem XR.gs {h : pm_H} {X : Nat} {hd : Nat} {un : Nat} {V : Nat → Nat → Int32} {wt : Nat} {W : Nat → Int32} {d : Nat} {B : Nat} {F : Nat} {Sl : Nat → Option Nat} (x_ : XR h X hd un V wt W d B F Sl) : ∀ j, j < hd + un → ∃ a, Sl ((F + j) % 40) = some a ∧ GD h a (V (if j < hd then j else j + 1)) := x_.2.2.2.2.2.2.2.2.2.2.2.2.2.2.2.2.2.1
theorem XR.w4 {h : pm_H} {X : Nat} {hd : Nat} {un : Nat} {V : Nat → Nat → Int32} {wt : Nat} {W : Nat → Int32} {d : Nat} {B : Nat} {F : Nat} {Sl : Nat → Option Nat} (x_ : XR h X hd un V wt W d B F Sl) : wt ≤ 4 := x_.2.2.2.2.2.2.2.2.2.2.2.2.2.2.2.2.2.2.1
theorem XR.wi {h : pm_H} {X : Nat} {hd : Nat} {un : Nat} {V : Nat → Nat → Int32} {wt : Nat} {W : Nat → Int32} {d : Nat} {B : Nat} {F : Nat} {Sl : Nat → Option Nat} (x_ : XR h X hd un V wt W d B F Sl) : rI h X 4 = nI wt := x_.2.2.2.2.2.2.2.2.2.2.2.2.2.2.2.2.2.2.2.1
theorem XR.wb {h : pm_H} {X : Nat} {hd : Nat} {un : Nat} {V : Nat → Nat → Int32} {wt : Nat} {W : Nat → Int32} {d : Nat} {B : Nat} {F : Nat} {Sl : Nat → Option Nat} (x_ : XR h X hd un V wt W d B F Sl) : ∀ j c, j < wt → c < 4 → rI h (X + 110 + j) c = W (4 * j + c) := x_.2.2.2.2.2.2.2.2.2.2.2.2.2.2.2.2.2.2.2.2.1
theorem XR.wr {h : pm_H} {X : Nat} {hd : Nat} {un : Nat} {V : Nat → Nat → Int32} {wt : Nat} {W : Nat → Int32} {d : Nat} {B : Nat} {F : Nat} {Sl : Nat → Option Nat} (x_ : XR h X hd un V wt W d B F Sl) : ∀ j, j < wt → (-10000 ≤ (W (4 * j)).toInt ∧ (W (4 * j)).toInt ≤ 10000) ∧ (-10000 ≤ (W (4 * j + 1)).toInt ∧ (W (4 * j + 1)).toInt ≤ 10000) ∧ (1 ≤ (W (4 * j + 2)).toInt ∧ (W (4 * j + 2)).toInt ≤ 10000) ∧ (1 ≤ (W (4 * j + 3)).toInt ∧ (W (4 * j + 3)).toInt ≤ 10000) := x_.2.2.2.2.2.2.2.2.2.2.2.2.2.2.2.2.2.2.2.2.2
def MR (h : pm_H) (M : Nat) (hd : Nat) (un : Nat) (V : Nat → Nat → Int32) (wt : Nat) (W : Nat → Int32) : Prop := (MK h M) ∧ (MK2 h M) ∧ (rI h M 1 = nI hd) ∧ (rI h M 2 = nI (hd + un)) ∧ (rI h M 3 = nI (980 * hd)) ∧ (hd + un ≤ 40) ∧ (∀ j e, j ≤ hd + un → e < 980 → rI h (M + 1) (980 * j + e) = V j e) ∧ (wt ≤ 4) ∧ (rI h M 5 = nI wt) ∧ (∀ k, k < 4 * wt → rI h (M + 2) k = W k)
theorem MR.k {h : pm_H} {M : Nat} {hd : Nat} {un : Nat} {V : Nat → Nat → Int32} {wt : Nat} {W : Nat → Int32} (x_ : MR h M hd un V wt W) : MK h M := x_.1
theorem MR.k2 {h : pm_H} {M : Nat} {hd : Nat} {un : Nat} {V : Nat → Nat → Int32} {wt : Nat} {W : Nat → Int32} (x_ : MR h M hd un V wt W) : MK2 h M := x_.2.1
theorem MR.m1 {h : pm_H} {M : Nat} {hd : Nat} {un : Nat} {V : Nat → Nat → Int32} {wt : Nat} {W : Nat → Int32} (x_ : MR h M hd un V wt W) : rI h M 1 = nI hd := x_.2.2.1
theorem MR.m2 {h : pm_H} {M : Nat} {hd : Nat} {un : Nat} {V : Nat → Nat → Int32} {wt : Nat} {W : Nat → Int32} (x_ : MR h M hd un V wt W) : rI h M 2 = nI (hd + un) := x_.2.2.2.1
theorem MR.m3 {h : pm_H} {M : Nat} {hd : Nat} {un : Nat} {V : Nat → Nat → Int32} {wt : Nat} {W : Nat → Int32} (x_ : MR h M hd un V wt W) : rI h M 3 = nI (980 * hd) := x_.2.2.2.2.1
theorem MR.h40 {h : pm_H} {M : Nat} {hd : Nat} {un : Nat} {V : Nat → Nat → Int32} {wt : Nat} {W : Nat → Int32} (x_ : MR h M hd un V wt W) : hd + un ≤ 40 := x_.2.2.2.2.2.1
theorem MR.vv {h : pm_H} {M : Nat} {hd : Nat} {un : Nat} {V : Nat → Nat → Int32} {wt : Nat} {W : Nat → Int32} (x_ : MR h M hd un V wt W) : ∀ j e, j ≤ hd + un → e < 980 → rI h (M + 1) (980 * j + e) = V j e := x_.2.2.2.2.2.2.1
theorem MR.w4 {h : pm_H} {M : Nat} {hd : Nat} {un : Nat} {V : Nat → Nat → Int32} {wt : Nat} {W : Nat → Int32} (x_ : MR h M hd un V wt W) : wt ≤ 4 := x_.2.2.2.2.2.2.2.1
theorem MR.wi {h : pm_H} {M : Nat} {hd : Nat} {un : Nat} {V : Nat → Nat → Int32} {wt : Nat} {W : Nat → Int32} (x_ : MR h M hd un V wt W) : rI h M 5 = nI wt := x_.2.2.2.2.2.2.2.2.1
theorem MR.wb {h : pm_H} {M : Nat} {hd : Nat} {un : Nat} {V : Nat → Nat → Int32} {wt : Nat} {W : Nat → Int32} (x_ : MR h M hd un V wt W) : ∀ k, k < 4 * wt → rI h (M + 2) k = W k := x_.2.2.2.2.2.2.2.2.2
/-- the heap off the model's cells and off the box -/
def XC (X : Nat) (h : pm_H) (h' : pm_H) : Prop := (∀ q, ¬ q = X + 114 → (q < X + 115 ∨ X + 131 ≤ q) → SQ h h' q) ∧ (rK h' (X + 114) = rK h (X + 114)) ∧ (rz h' = rz h)
theorem XC.c {X : Nat} {h : pm_H} {h' : pm_H} (x_ : XC X h h') : ∀ q, ¬ q = X + 114 → (q < X + 115 ∨ X + 131 ≤ q) → SQ h h' q := x_.1
theorem XC.b {X : Nat} {h : pm_H} {h' : pm_H} (x_ : XC X h h') : rK h' (X + 114) = rK h (X + 114) := x_.2.1
theorem XC.z {X : Nat} {h : pm_H} {h' : pm_H} (x_ : XC X h h') : rz h' = rz h := x_.2.2
theorem XK.cgl {h h' : pm_H} {X : Nat} (t : XK h X) (c : ∀ q, ¬ q = X + 114 → (q < X + 115 ∨ X + 131 ≤ q) → rK h' q = rK h q ∧ rP h' q = rP h q) (b : rK h' (X + 114) = rK h (X + 114)) : XK h' X := by
  obtain ⟨k0, k1, k2, k3, k4, k5, k6, k7, k8, k9, k10⟩ := t
  have a0 := c X (by omega) (by omega)
  refine ⟨by rw [a0.1]; exact k0, by rw [a0.2]; exact k1, by rw [(c _ (by omega) (by omega)).1]; exact k2, by rw [(c (X + 107) (by omega) (by omega)).2]; exact k3, by rw [(c _ (by omega) (by omega)).1]; exact k4, by rw [a0.2]; exact k5, by rw [(c _ (by omega) (by omega)).1]; exact k6, fun j hj => by rw [(c (X + 109) (by omega) (by omega)).2]; exact k7 j hj, fun j hj => by rw [(c _ (by omega) (by omega)).1]; exact k8 j hj, by rw [a0.2]; exact k9, by rw [b]; exact k10⟩
section REL
variable {h h' : pm_H} {X M hd un wt d B F : Nat} {V : Nat → Nat → Int32} {W : Nat → Int32} {Sl : Nat → Option Nat}
theorem XR.cg (R : XR h X hd un V wt W d B F Sl) (f : XC X h h') : XR h' X hd un V wt W d B F Sl := by
  have bl : ∀ {z a}, DA X z a → ∀ q, a ≤ q → q < a + 53 → SQ h h' q := fun x q h1 h2 => f.c q (by have := x.lo; omega) (by have := x.lo; omega)
  refine ⟨R.xk.cgl (fun q h1 h2 => ⟨(f.c q h1 h2).1, (f.c q h1 h2).2.2.2⟩) f.b, by rw [f.z]; exact R.zz, by rw [(f.c X (by omega) (by omega)).2.2.2]; exact R.pd, by rw [(f.c X (by omega) (by omega)).2.2.2]; exact R.pb, R.hu, R.f40, by rw [(f.c (X + 107) (by omega) (by omega)).2.1]; exact R.f1, by rw [(f.c (X + 107) (by omega) (by omega)).2.1]; exact R.f2, by rw [(f.c (X + 107) (by omega) (by omega)).2.1]; exact R.f3, fun k hk => by rw [(f.c (X + 108) (by omega) (by omega)).2.2.2]; exact R.sl k hk, by rw [f.z]; exact R.od, by rw [f.z]; exact R.ob, R.kb.cgl (fun q h1 h2 => ⟨(bl R.ob q h1 h2).1, (bl R.ob q h1 h2).2.2.2⟩), R.db, fun k a hk ha => ?_, R.inj, R.gd.cgl (bl R.od), fun j hj => ?_, R.w4, by rw [(f.c X (by omega) (by omega)).2.1]; exact R.wi, fun j c hj hc => ?_, R.wr⟩
  · obtain ⟨o1, o2, o3, o4⟩ := R.os k a hk ha
    exact ⟨by rw [f.z]; exact o1, o2.cgl (fun q h1 h2 => ⟨(bl o1 q h1 h2).1, (bl o1 q h1 h2).2.2.2⟩), o3, o4⟩
  · obtain ⟨a, a1, a2⟩ := R.gs j hj
    exact ⟨a, a1, a2.cgl (bl (R.os _ a (Nat.mod_lt _ (by omega)) a1).1)⟩
  · have := R.w4
    rw [(f.c (X + 110 + j) (by omega) (by omega)).2.1]; exact R.wb j c hj hc
theorem XR.z131 (R : XR h X hd un V wt W d B F Sl) : X + 131 ≤ rz h := by
  obtain ⟨q, e⟩ := R.zz
  omega
theorem MK.cgl {h h' : pm_H} {M : Nat} (t : MK h M) (c : ∀ q, M ≤ q → q < M + 16 → rK h' q = rK h q ∧ rP h' q = rP h q) : MK h' M := by
  have a0 := c M (by omega) (by omega)
  have eK : ∀ x, x < 16 → rK h' (M + x) = rK h (M + x) := fun x hx => (c (M + x) (by omega) (by omega)).1
  unfold MK at *
  rw [a0.1, a0.2, eK 1 (by omega), eK 2 (by omega), eK 3 (by omega), eK 4 (by omega), eK 5 (by omega), eK 6 (by omega), eK 7 (by omega), eK 8 (by omega)]
  exact t
theorem MK2.cgl {h h' : pm_H} {M : Nat} (t : MK2 h M) (c : ∀ q, M ≤ q → q < M + 16 → rK h' q = rK h q ∧ rP h' q = rP h q) : MK2 h' M := by
  have a0 := c M (by omega) (by omega)
  have eK : ∀ x, x < 16 → rK h' (M + x) = rK h (M + x) := fun x hx => (c (M + x) (by omega) (by omega)).1
  unfold MK2 at *
  rw [a0.2, eK 9 (by omega), eK 10 (by omega), eK 11 (by omega), eK 12 (by omega), eK 13 (by omega), eK 14 (by omega), eK 15 (by omega)]
  exact t
theorem MR.cg (R : MR h M hd un V wt W) (c : ∀ q, M ≤ q → q < M + 16 → rK h' q = rK h q ∧ rP h' q = rP h q) (e0 : ∀ k, k ≠ 12 → k ≠ 13 → k ≠ 20 → rI h' M k = rI h M k) (e1 : rI h' (M + 1) = rI h (M + 1)) (e2 : rI h' (M + 2) = rI h (M + 2)) : MR h' M hd un V wt W := by
  exact ⟨R.k.cgl c, R.k2.cgl c, by rw [e0 1 (by omega) (by omega) (by omega)]; exact R.m1, by rw [e0 2 (by omega) (by omega) (by omega)]; exact R.m2, by rw [e0 3 (by omega) (by omega) (by omega)]; exact R.m3, R.h40, fun j e h1 h2 => by rw [e1]; exact R.vv j e h1 h2, R.w4, by rw [e0 5 (by omega) (by omega) (by omega)]; exact R.wi, fun k hk => by rw [e2]; exact R.wb k hk⟩
theorem FRM.xc {h h' : pm_H} (f : FRM X (X + 115) h h') : XC X h h' := by
  refine ⟨fun q h1 h2 => ⟨by rw [f.fk], f.fi q h1 (by omega) (by omega), f.fj q (by omega), by rw [f.fp]⟩, by rw [f.fk], f.fz⟩
theorem FRM.mr {h h' : pm_H} (f : FRM X (X + 115) h h') (R : MR h (X + 115) hd un V wt W) : MR h' (X + 115) hd un V wt W :=
  R.cg (fun q _ _ => ⟨by rw [f.fk], by rw [f.fp]⟩) (fun k a b c => f.fm k a b c) (f.fi _ (by omega) (by omega) (by omega)) (f.fi _ (by omega) (by omega) (by omega))
/-- both stand side by side -/
theorem rel_now (R : XR h X hd un V wt W d B F Sl) (N : MR h (X + 115) hd un V wt W) : ∃ (v : Nat → Int32) (n c : Nat) (p lo r rl C H P : Nat → Nat), NOW h X (X + 115) d (980 * hd) v n c p lo r rl C H P := by
  have hu := R.hu
  obtain ⟨n, c, p, lo, r, rl, C, H, P, s, q, t⟩ := R.gd.cgv (v' := fun e => rI h (X + 115 + 1) (980 * hd + e)) (fun x hx => N.vv hd x (by omega) hx)
  have := R.od.lo
  exact ⟨_, n, c, p, lo, r, rl, C, H, P, R.xk, R.pd, t, s, q, ⟨N.k, N.m3, by omega, fun e => rfl⟩, N.k2, by omega, by omega, rfl⟩
theorem rel_hwt (R : XR h X hd un V wt W d B F Sl) (N : MR h (X + 115) hd un V wt W) : HWT h X (X + 115) hd un wt := ⟨R.f2, R.f3, N.m1, N.m2, R.wi, N.wi, R.hu, R.w4⟩
end REL
