/-! THE STEPS THAT READ AND WRITE THE HEAP -/
section PMH
variable {p : Program} {l : Launch} {e : Env} {R : Room} {s : State} {m : MethodId} {args : Array Value} {below : List Frame} {meth : Method} {c : Code} {Q : State → Prop}
variable {D : va_G} {cA : Nat → ClassId} {base y z0 s0 : Nat} {pc n : Nat} {L : pm_L} {st : List Value} {h : pm_H}
theorem pm_own {s : State} {H : Heap} (F : pm_Wd D cA base h s H) {a k : Nat} (hk : (rK h a).1 = k) (h0 : k ≠ 0) (h3 : k ≠ 3) : base ≤ a ∧ a < rz h := F.2.2.2.1 a (by rw [hk]; exact h0) (by rw [hk]; exact h3)
/-- the world behind a write that keeps kinds and sizes -/
theorem pm_Wd.write {s : State} {h h' : pm_H} {H H1 : Heap} {a : Nat} {E : va_E} (F : pm_Wd D cA base h s H) (hb : base ≤ a) (hK : rK h' = rK h) (hz : rz h' = rz h) (hE : pm_ce cA h' a = E) (ho : ∀ b, b ≠ a → rI h' b = rI h b ∧ rJ h' b = rJ h b ∧ rP h' b = rP h b) (hP : va_P D pm_cl ((pm_pw base cA h).set (a - base) (a, E)) H1) (hsz : H1.size = H.size) (hfr : ∀ q, q < base → H1[q]? = H[q]?) : pm_Wd D cA base h' s H1 := by
  obtain ⟨f1, f2, f3, f4, f5⟩ := F
  refine ⟨?_, by rw [hsz, f2, hz], by rw [hz]; exact f3, by rw [hK, hz]; exact f4, fun b hb3 => ?_⟩
  · rw [← pm_pw_set hz hE (fun b hb2 => pm_ce_eq (by rw [hK]) (ho b hb2).1 (ho b hb2).2.1 (ho b hb2).2.2) hb]
    exact hP
  · rw [hK] at hb3 ⊢
    obtain ⟨g1, g2⟩ := f5 b hb3
    refine ⟨g1, ?_⟩
    rw [(ho b (by omega)).1]
    exact g2.kept (hfr b g1)
theorem ps_getf {ix : Nat} (hd : decode (pm_mb y) pc = .ok (.getfield ix, n)) {v} (hs : pm_getf y ix n pc L st h = some v) : ∃ st', v = .inl (pc + 3, L, st', h) ∧ (pm_CX D cA base y p R s m args meth c → pm_KK D cA base y z0 s0 p l e R s m args below meth c Q (pc + 3) L st' h → pm_KK D cA base y z0 s0 p l e R s m args below meth c Q pc L st h) := by
  unfold pm_getf at hs
  split at hs
  · rename_i a r ci k hf
    split at hs
    · rename_i hk
      cases hs
      refine ⟨_, rfl, fun CX kk => ?_⟩
      obtain ⟨hx, hb, hml, hr, hown, hts, hlocks, hin, hK, hNW, hbase, hfr, hlc⟩ := CX
      intro H locs cells slots ls F
      obtain ⟨hci, hkN, hlink⟩ := pm_fl_ok hf
      obtain ⟨C, T, N, ty, hc, hC, hN, hws, -, -, hT⟩ := pm_class hci
      have ho := pm_own (k := 1) F.1 (congrArg Prod.fst hk) (by decide) (by decide)
      have hg := pm_pw_get (cA := cA) ho.1 ho.2
      rw [pm_ce_o hk] at hg
      refine va_get (D := D) (ci := ci) (C := C) (T := T) (N := N) hx hb hts hws hown hK F.1.1 (a - base) hg hc k (by rw [hN]; exact hkN) (hts _ (hlink C T N hc)) (fun _ h9 => h9) (v := pm_fv h a (pm_fkk ci k) k) ?_ hd (kk _ _ _ _ _ F)
      simp [pm_fs, hkN]
    · cases hs
  · cases hs
theorem pm_stv_ok {h h' : pm_H} {a t k : Nat} {v : Value} (hs : pm_stv h a t k v = some h') {ty : FieldType} (ht : (t = 0 ∧ ty = .int) ∨ (t = 1 ∧ ty = .long) ∨ (t = 2 ∧ ty.isReference = true)) : narrow ty v = v ∧ fits ty v = true := by
  unfold pm_stv at hs
  cases v with
  | int x =>
    simp only at hs
    split at hs
    · rename_i h0
      rcases ht with ⟨-, rfl⟩ | ⟨h1, -⟩ | ⟨h1, -⟩
      · exact ⟨rfl, rfl⟩
      · omega
      · omega
    · cases hs
  | long x =>
    simp only at hs
    split at hs
    · rename_i h0
      rcases ht with ⟨h1, -⟩ | ⟨-, rfl⟩ | ⟨h1, -⟩
      · omega
      · exact ⟨rfl, rfl⟩
      · omega
    · cases hs
  | ref b =>
    simp only at hs
    split at hs
    · rename_i h0
      rcases ht with ⟨h1, -⟩ | ⟨h1, -⟩ | ⟨-, h1⟩
      · omega
      · omega
      · cases ty <;> first | exact ⟨rfl, rfl⟩ | cases h1
    · cases hs
  | _ => cases hs
theorem ps_putf {ix : Nat} (hd : decode (pm_mb y) pc = .ok (.putfield ix, n)) {v} (hs : pm_putf y ix n pc L st h = some v) : ∃ st' h', v = .inl (pc + 3, L, st', h') ∧ rz h' = rz h ∧ rs h' = rs h ∧ (pm_CX D cA base y p R s m args meth c → pm_KK D cA base y z0 s0 p l e R s m args below meth c Q (pc + 3) L st' h' → pm_KK D cA base y z0 s0 p l e R s m args below meth c Q pc L st h) := by
  unfold pm_putf at hs
  split at hs
  · rename_i w a r ci k hf
    split at hs
    · rename_i hk
      obtain ⟨hk, hfinal⟩ := hk
      cases hst : pm_stv h a (pm_fkk ci k) k w with
      | none => rw [hst] at hs; cases hs
      | some h' =>
        rw [hst] at hs
        cases hs
        obtain ⟨o1, o2, o3, o4⟩ := pm_stv_o hst
        refine ⟨_, _, rfl, o2, o3, fun CX kk => ?_⟩
        obtain ⟨hx, hb, hml, hr, hown, hts, hlocks, hin, hK, hNW, hbase, hfr, hlc⟩ := CX
        intro H locs cells slots ls F
        obtain ⟨hci, hkN, hlink⟩ := pm_fl_ok hf
        obtain ⟨C, T, N, ty, hc, hC, hN, hws, hty, hnm, hT⟩ := pm_class hci
        have hkN' : k < N := by rw [hN]; exact hkN
        obtain ⟨t1, t2, t3⟩ := hT k hkN'
        have ho := pm_own (k := 1) F.1 (congrArg Prod.fst hk) (by decide) (by decide)
        have hg := pm_pw_get (cA := cA) ho.1 ho.2
        rw [pm_ce_o hk] at hg
        obtain ⟨n1, n2⟩ := pm_stv_ok hst t3
        have hl : k < (pm_fs h a ci).length := by simp [pm_fs, hkN]
        have fin : ∀ (H1 : Heap) (locs1 : List Loc), H1.size = H.size → (∀ q, q < base → H1[q]? = H[q]?) → va_P D pm_cl ((pm_pw base cA h).set (a - base) (a, .inr (ci, (pm_fs h a ci).set k w))) H1 → va_S (fun q => base ≤ q) s.heap H1 locs1 → W p l e R s m args below meth c H1 locs1 cells slots Q (F0 m (pc + 3) ls r) := by
          intro H1 locs1 z1 q1 hP1 hS1
          refine kk _ _ _ _ _ ⟨F.1.write ho.1 o1 o2 (pm_ce_o (by rw [o1]; exact hk)) o4 (by rw [← pm_stv_fs hst rfl]; exact hP1) z1 q1, hS1, by rw [o2]; exact F.2.2.1, by rw [o3]; exact F.2.2.2.1, by rw [o2]; exact F.2.2.2.2.1, by rw [o3]; exact F.2.2.2.2.2.1, F.2.2.2.2.2.2⟩
        have hap := va_apart (own := pm_cs (pm_oc y)) (D := D) hts hws ty hty hnm hK hc
        obtain ⟨r', h1, cell, q1, q2, q3, q4⟩ := F.1.1 _ _ hg
        have hr' : r' = (C, T, N) := Option.some.inj (h1.symm.trans hc)
        subst hr'
        obtain ⟨hS, hfc, kC, hkC, hkind⟩ := hK.1 ci _ hc
        obtain ⟨cf, kf, fi, f, hi, hsl⟩ := hS k hkN'
        have hlay := hts _ (hws _ (u_in_lay hkN'))
        unfold u_lay at hlay
        have hstt := (u_facts hfc hkC (u_lays hts hws hkN') hi).1
        have core : ∀ H' : Heap, H'[a]? = some (cell.setSlot f.slot w) → H'.size = H.size → (∀ q, q ≠ a → H'[q]? = H[q]?) → W p l e R s m args below meth c H' (locs ++ [⟨a, f.slot⟩]) cells slots Q (F0 m (pc + 3) ls r) := by
          intro H' e1 e2 e3
          rw [hsl] at e1 ⊢
          exact fin H' _ e2 (fun q hq => e3 q (Nat.ne_of_lt (Nat.lt_of_lt_of_le hq ho.1))) (F.1.1.set pm_pw_D hg ⟨_, hc, t_OB.to (V := updV (vp_V (pm_fs h a ci)) k w) ⟨_, e1, q2, q3, t_set q4 hap hkN' w⟩ (fun j _ => vp_updV_set hl w j)⟩ e3) (F.2.1.put e2 e3 ho.1)
        cases hff : pm_fff ci k with
        | false =>
          rw [t2, hff] at hlay
          rw [if_neg (by decide)] at hlay
          have h6 := u_store hfc hkC hkind hlay hi (hty k hkN') n1 n2
          exact W.putK hx hb (f := f) ⟨hown, hts _ (hlink C T N hc), ⟨_, _, _, hi⟩, hstt⟩ (by rw [q2]; exact h6) q1 q3 (by rw [hsl]; exact k2_hasslot (q4 k hkN')) rfl rfl hd core
        | true =>
          rw [t2, hff] at hlay
          rw [if_pos rfl] at hlay
          obtain ⟨hkd, hoc⟩ := hfinal hff
          have hcf : m.cls = cf := by
            obtain ⟨_, _, c', _, _, _, -, -, hf', -, -, -, hown2, -⟩ := Cond.laysFinal_spec hlay
            have e1 : c' = cf := by have := hi.symm.trans hf'; simp at this; exact this.1.symm
            rw [t1, hC, ← hoc] at hown2
            rw [← e1]; exact Option.some.inj (hown.symm.trans hown2)
          have h6 := u_fits hfc hkC hkind (Or.inr hlay) hi (hty k hkN') n1 n2
          exact W.putFinK hx hb hown (hts _ (hlink C T N hc)) hi hstt hcf (hin hkd) (by rw [q2]; exact h6) q1 q3 (by rw [hsl]; exact k2_hasslot (q4 k hkN')) rfl rfl hd core
    · cases hs
  · cases hs
end PMH
