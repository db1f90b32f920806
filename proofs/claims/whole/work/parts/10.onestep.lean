/-! ONE STEP THAT IS NO CALL AND NO END -/
section PMO
variable {p : Program} {l : Launch} {e : Env} {R : Room} {s : State} {m : MethodId} {args : Array Value} {below : List Frame} {meth : Method} {c : Code} {Q : State → Prop}
variable {D : va_G} {cA : Nat → ClassId} {base y z0 s0 : Nat} {pc n pc' : Nat} {L L' : pm_L} {st st' : List Value} {h h' : pm_H}
abbrev pm_Ok (D : va_G) (cA : Nat → ClassId) (base y z0 s0 : Nat) (p : Program) (l : Launch) (e : Env) (R : Room) (s : State) (m : MethodId) (args : Array Value) (below : List Frame) (meth : Method) (c : Code) (Q : State → Prop) (pc : Nat) (L : pm_L) (st : List Value) (h : pm_H) (pc' : Nat) (L' : pm_L) (st' : List Value) (h' : pm_H) : Prop :=
  (rz h ≤ rz h' ∧ rs h ≤ rs h') ∧ (pm_CX D cA base y p R s m args meth c → z0 = s.heap.size → rz h' - z0 ≤ R.cells → rs h' - s0 ≤ R.slots → pm_KK D cA base y z0 s0 p l e R s m args below meth c Q pc' L' st' h' → pm_KK D cA base y z0 s0 p l e R s m args below meth c Q pc L st h)
theorem pm_ok_of (k : pm_CX D cA base y p R s m args meth c → pm_KK D cA base y z0 s0 p l e R s m args below meth c Q pc' L' st' h → pm_KK D cA base y z0 s0 p l e R s m args below meth c Q pc L st h) : pm_Ok D cA base y z0 s0 p l e R s m args below meth c Q pc L st h pc' L' st' h :=
  ⟨⟨Nat.le_refl _, Nat.le_refl _⟩, fun CX _ _ _ => k CX⟩
theorem ps_if1 {cnd : ClassFile.Cond} {off : Int} (CX : pm_CX D cA base y p R s m args meth c) (hd : decode (pm_mb y) pc = .ok (.ifCond cnd off, 3)) {x : Int32} {r : List Value} {t : Nat} (ht : (pc : Int) + off = (t : Int)) (kt : pm_cmp cnd x 0 = true → pm_KK D cA base y z0 s0 p l e R s m args below meth c Q t L r h) (kf : ¬ pm_cmp cnd x 0 = true → pm_KK D cA base y z0 s0 p l e R s m args below meth c Q (pc + 3) L r h) : pm_KK D cA base y z0 s0 p l e R s m args below meth c Q pc L (.int x :: r) h := by
  obtain ⟨hx, hb, -⟩ := CX
  intro H locs cells slots ls F
  cases cnd with
  | eq => exact lv_if_eq hx hb hd ht (fun q => kt (by simpa [pm_cmp] using q) _ _ _ _ _ F) (fun q => kf (by simpa [pm_cmp] using q) _ _ _ _ _ F)
  | ne => exact lv_if_ne hx hb hd ht (fun q => kt (by simpa [pm_cmp] using q) _ _ _ _ _ F) (fun q => kf (by simpa [pm_cmp] using q) _ _ _ _ _ F)
  | lt => exact lv_if_lt hx hb hd ht (fun q => kt (by simpa [pm_cmp] using q) _ _ _ _ _ F) (fun q => kf (by simpa [pm_cmp] using q) _ _ _ _ _ F)
  | ge => exact lv_if_ge hx hb hd ht (fun q => kt (by simpa [pm_cmp] using q) _ _ _ _ _ F) (fun q => kf (by simpa [pm_cmp] using q) _ _ _ _ _ F)
  | gt => exact lv_if_gt hx hb hd ht (fun q => kt (by simpa [pm_cmp] using q) _ _ _ _ _ F) (fun q => kf (by simpa [pm_cmp] using q) _ _ _ _ _ F)
  | le => exact lv_if_le hx hb hd ht (fun q => kt (by simpa [pm_cmp] using q) _ _ _ _ _ F) (fun q => kf (by simpa [pm_cmp] using q) _ _ _ _ _ F)
theorem ps_if2 {cnd : ClassFile.Cond} {off : Int} (CX : pm_CX D cA base y p R s m args meth c) (hd : decode (pm_mb y) pc = .ok (.if_icmp cnd off, 3)) {x w : Int32} {r : List Value} {t : Nat} (ht : (pc : Int) + off = (t : Int)) (kt : pm_cmp cnd x w = true → pm_KK D cA base y z0 s0 p l e R s m args below meth c Q t L r h) (kf : ¬ pm_cmp cnd x w = true → pm_KK D cA base y z0 s0 p l e R s m args below meth c Q (pc + 3) L r h) : pm_KK D cA base y z0 s0 p l e R s m args below meth c Q pc L (.int w :: .int x :: r) h := by
  obtain ⟨hx, hb, -⟩ := CX
  intro H locs cells slots ls F
  cases cnd with
  | eq => exact lv_icmp_eq hx hb hd ht (fun q => kt (by simpa [pm_cmp] using q) _ _ _ _ _ F) (fun q => kf (by simpa [pm_cmp] using q) _ _ _ _ _ F)
  | ne => exact lv_icmp_ne hx hb hd ht (fun q => kt (by simpa [pm_cmp] using q) _ _ _ _ _ F) (fun q => kf (by simpa [pm_cmp] using q) _ _ _ _ _ F)
  | lt => exact lv_icmp_lt hx hb hd ht (fun q => kt (by simpa [pm_cmp] using q) _ _ _ _ _ F) (fun q => kf (by simpa [pm_cmp] using q) _ _ _ _ _ F)
  | ge => exact lv_icmp_ge hx hb hd ht (fun q => kt (by simpa [pm_cmp] using q) _ _ _ _ _ F) (fun q => kf (by simpa [pm_cmp] using q) _ _ _ _ _ F)
  | gt => exact lv_icmp_gt hx hb hd ht (fun q => kt (by simpa [pm_cmp] using q) _ _ _ _ _ F) (fun q => kf (by simpa [pm_cmp] using q) _ _ _ _ _ F)
  | le => exact lv_icmp_le hx hb hd ht (fun q => kt (by simpa [pm_cmp] using q) _ _ _ _ _ F) (fun q => kf (by simpa [pm_cmp] using q) _ _ _ _ _ F)
end PMO
