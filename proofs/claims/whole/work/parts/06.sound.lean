/-! ONE STEP, SOUND -/
def pm_CX (D : va_G) (cA : Nat → ClassId) (base y : Nat) (p : Program) (R : Room) (s : State) (m : MethodId) (args : Array Value) (meth : Method) (c : Code) : Prop :=
  p.tables.exec = Jvm.exec ∧ c.code = pm_mb y ∧ c.maxLocals = pm_mx y ∧ meth.sig.returnType = pm_rt y ∧ s.vm.findClass (pm_cs (pm_oc y)) = some m.cls ∧ (∀ w ∈ pm_gd, w.before args s = true) ∧ meth.locks = false ∧ (pm_kd y = 2 → meth.name = "<init>") ∧ va_K D pm_cl (pm_tys cA) s ∧ pm_NW s ∧ base ≤ s.heap.size ∧ pm_fr y ≤ R.frames ∧ pm_lc y ≤ R.locals
def pm_FS (D : va_G) (cA : Nat → ClassId) (base y z0 s0 : Nat) (s : State) (L : pm_L) (h : pm_H) (H : Heap) (locs : List Loc) (cells slots : Nat) (ls : Array Slot) : Prop :=
  pm_Wd D cA base h s H ∧ va_S (fun q => base ≤ q) s.heap H locs ∧ cells = rz h - z0 ∧ slots = rs h - s0 ∧ z0 ≤ rz h ∧ s0 ≤ rs h ∧ pm_lv ls (pm_mx y) L
theorem pm_FS.loc {D : va_G} {cA : Nat → ClassId} {base y z0 s0 : Nat} {s : State} {L L' : pm_L} {h : pm_H} {H : Heap} {locs : List Loc} {cells slots : Nat} {ls ls' : Array Slot} (F : pm_FS D cA base y z0 s0 s L h H locs cells slots ls) (hl : pm_lv ls' (pm_mx y) L') : pm_FS D cA base y z0 s0 s L' h H locs cells slots ls' := by
  obtain ⟨a, b, c, d, e, f, -⟩ := F
  exact ⟨a, b, c, d, e, f, hl⟩
section PMS
variable {p : Program} {l : Launch} {e : Env} {R : Room} {s : State} {m : MethodId} {args : Array Value} {below : List Frame} {meth : Method} {c : Code} {Q : State → Prop}
variable {D : va_G} {cA : Nat → ClassId} {base y z0 s0 : Nat}
def pm_KK (D : va_G) (cA : Nat → ClassId) (base y z0 s0 : Nat) (p : Program) (l : Launch) (e : Env) (R : Room) (s : State) (m : MethodId) (args : Array Value) (below : List Frame) (meth : Method) (c : Code) (Q : State → Prop) (pc : Nat) (L : pm_L) (st : List Value) (h : pm_H) : Prop :=
  ∀ (H : Heap) (locs : List Loc) (cells slots : Nat) (ls : Array Slot), pm_FS D cA base y z0 s0 s L h H locs cells slots ls → W p l e R s m args below meth c H locs cells slots Q (F0 m pc ls st)
variable {pc : Nat} {L : pm_L} {st : List Value} {h : pm_H}
theorem ps_bin {n : Nat} {f : Int32 → Int32 → Int32} {v} (hs : pm_bin n pc L st h f = some v) : ∃ x y r, n = 1 ∧ st = .int y :: .int x :: r ∧ v = .inl (pc + 1, L, .int (f x y) :: r, h) := by
  unfold pm_bin at hs
  split at hs
  · cases hs; exact ⟨_, _, _, rfl, rfl, rfl⟩
  · cases hs
theorem ps_binL {n : Nat} {f : Int64 → Int64 → Int64} {v} (hs : pm_binL n pc L st h f = some v) : ∃ x y r, n = 1 ∧ st = .long y :: .long x :: r ∧ v = .inl (pc + 1, L, .long (f x y) :: r, h) := by
  unfold pm_binL at hs
  split at hs
  · cases hs; exact ⟨_, _, _, rfl, rfl, rfl⟩
  · cases hs
theorem ps_shL {n : Nat} {f : Int64 → Int32 → Int64} {v} (hs : pm_shL n pc L st h f = some v) : ∃ x y r, n = 1 ∧ st = .int y :: .long x :: r ∧ v = .inl (pc + 1, L, .long (f x y) :: r, h) := by
  unfold pm_shL at hs
  split at hs
  · cases hs; exact ⟨_, _, _, rfl, rfl, rfl⟩
  · cases hs
theorem ps_dv {n : Nat} {f : Int32 → Int32 → Int32} {v} (hs : pm_dv n pc L st h f = some v) : ∃ x y r, n = 1 ∧ ¬ y = 0 ∧ st = .int y :: .int x :: r ∧ v = .inl (pc + 1, L, .int (f x y) :: r, h) := by
  unfold pm_dv at hs
  split at hs
  · split at hs
    · cases hs
    · rename_i h0; cases hs; exact ⟨_, _, _, rfl, h0, rfl, rfl⟩
  · cases hs
theorem ps_ldi {n q k : Nat} {v} (hs : pm_ldi n q pc k L st h = some v) : ∃ x, n = q ∧ L.getD k none = some (.int x) ∧ v = .inl (pc + n, L, .int x :: st, h) := by
  unfold pm_ldi at hs
  split at hs
  · rename_i hn
    split at hs
    · rename_i x hx; cases hs; exact ⟨x, hn, hx, rfl⟩
    · cases hs
  · cases hs
theorem ps_lda {n q k : Nat} {v} (hs : pm_lda n q pc k L st h = some v) : ∃ w, n = q ∧ L.getD k none = some w ∧ (w = .null ∨ ∃ x, w = .ref x) ∧ v = .inl (pc + n, L, w :: st, h) := by
  unfold pm_lda at hs
  split at hs
  · rename_i hn
    split at hs
    · rename_i x hx; cases hs; exact ⟨_, hn, hx, Or.inr ⟨x, rfl⟩, rfl⟩
    · rename_i hx; cases hs; exact ⟨_, hn, hx, Or.inl rfl, rfl⟩
    · cases hs
  · cases hs
theorem ps_ldl {n q k : Nat} {v} (hs : pm_ldl n q pc k L st h = some v) : ∃ x, n = q ∧ L.getD k none = some (.long x) ∧ v = .inl (pc + n, L, .long x :: st, h) := by
  unfold pm_ldl at hs
  split at hs
  · rename_i hn
    split at hs
    · rename_i x hx; cases hs; exact ⟨x, hn, hx, rfl⟩
    · cases hs
  · cases hs
theorem ps_sti {n q k : Nat} {v} (hs : pm_sti n q pc k L st h = some v) : ∃ x r L', n = q ∧ st = .int x :: r ∧ pm_put L k (.int x) = some L' ∧ v = .inl (pc + n, L', r, h) := by
  unfold pm_sti at hs
  split at hs
  · rename_i hn
    split at hs
    · rename_i x r
      cases hp : pm_put L k (.int x) with
      | none => rw [hp] at hs; cases hs
      | some L' => rw [hp] at hs; cases hs; exact ⟨x, r, L', hn, rfl, hp, rfl⟩
    · cases hs
  · cases hs
theorem ps_sta {n q k : Nat} {v} (hs : pm_sta n q pc k L st h = some v) : ∃ w r L', n = q ∧ st = w :: r ∧ (w = .null ∨ ∃ x, w = .ref x) ∧ pm_put L k w = some L' ∧ v = .inl (pc + n, L', r, h) := by
  unfold pm_sta at hs
  split at hs
  · rename_i hn
    split at hs
    · rename_i x r
      cases hp : pm_put L k (.ref x) with
      | none => rw [hp] at hs; cases hs
      | some L' => rw [hp] at hs; cases hs; exact ⟨_, r, L', hn, rfl, Or.inr ⟨x, rfl⟩, hp, rfl⟩
    · rename_i r
      cases hp : pm_put L k .null with
      | none => rw [hp] at hs; cases hs
      | some L' => rw [hp] at hs; cases hs; exact ⟨_, r, L', hn, rfl, Or.inl rfl, hp, rfl⟩
    · cases hs
  · cases hs
theorem ps_stl {n q k : Nat} {v} (hs : pm_stl n q pc k L st h = some v) : ∃ x r L', n = q ∧ st = .long x :: r ∧ pm_put2 L k (.long x) = some L' ∧ v = .inl (pc + n, L', r, h) := by
  unfold pm_stl at hs
  split at hs
  · rename_i hn
    split at hs
    · rename_i x r
      cases hp : pm_put2 L k (.long x) with
      | none => rw [hp] at hs; cases hs
      | some L' => rw [hp] at hs; cases hs; exact ⟨x, r, L', hn, rfl, hp, rfl⟩
    · cases hs
  · cases hs
theorem ps_jmp {off : Int} {v} (hs : pm_jmp pc off L st h = some v) : ∃ t : Nat, (pc : Int) + off = (t : Int) ∧ v = .inl (t, L, st, h) := by
  unfold pm_jmp at hs
  split at hs
  · rename_i h0
    cases hs
    exact ⟨_, (Int.toNat_of_nonneg h0).symm, rfl⟩
  · cases hs
theorem ps_br {off : Int} {b : Bool} {v} (hs : pm_br pc off b L st h = some v) : ∃ t : Nat, (pc : Int) + off = (t : Int) ∧ ((b = true ∧ v = .inl (t, L, st, h)) ∨ (¬ b = true ∧ v = .inl (pc + 3, L, st, h))) := by
  unfold pm_br at hs
  split at hs
  · rename_i h0
    refine ⟨_, (Int.toNat_of_nonneg h0).symm, ?_⟩
    split at hs
    · rename_i hb; cases hs; exact Or.inl ⟨hb, rfl⟩
    · rename_i hb; cases hs; exact Or.inr ⟨hb, rfl⟩
  · cases hs
theorem ps_sw {x : Int32} {d : Int} : ∀ (os : List Int) (lo : Int), ((x.toInt < lo ∨ lo + os.length ≤ x.toInt) ∧ pm_sw x d lo os = d) ∨ (¬ x.toInt < lo ∧ x.toInt < lo + os.length ∧ os[(x.toInt - lo).toNat]? = some (pm_sw x d lo os)) := by
  intro os
  induction os with
  | nil => intro lo; left; refine ⟨?_, rfl⟩; simp; omega
  | cons o os ih =>
    intro lo
    rw [pm_sw]
    by_cases hx : x.toInt = lo
    · right
      rw [if_pos hx]
      refine ⟨by omega, by simp; omega, ?_⟩
      rw [hx]; simp
    · rw [if_neg hx]
      rcases ih (lo + 1) with ⟨h1, h2⟩ | ⟨h1, h2, h3⟩
      · left
        refine ⟨?_, h2⟩
        simp only [List.length_cons]
        omega
      · right
        refine ⟨by omega, by simp only [List.length_cons]; omega, ?_⟩
        rw [show (x.toInt - lo).toNat = (x.toInt - (lo + 1)).toNat + 1 by omega]
        simpa using h3
end PMS
