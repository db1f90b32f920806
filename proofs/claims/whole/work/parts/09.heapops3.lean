/-! NEW ROWS, AND ROWS COPIED -/
section PMH
variable {p : Program} {l : Launch} {e : Env} {R : Room} {s : State} {m : MethodId} {args : Array Value} {below : List Frame} {meth : Method} {c : Code} {Q : State → Prop}
variable {D : va_G} {cA : Nat → ClassId} {base y z0 s0 : Nat} {pc : Nat} {L : pm_L} {st r : List Value} {h : pm_H}
theorem pm_W_size {H : Heap} {locs : List Loc} {cells slots : Nat} {g : JFrame} (k : H.size ≤ s.heap.size + cells → W p l e R s m args below meth c H locs cells slots Q g) : W p l e R s m args below meth c H locs cells slots Q g := by
  intro T hT X
  have h1 := X.same.2.2.1
  have h2 : T.heap.size ≤ s.heap.size + cells := h1
  rw [hT] at h2
  exact k h2 T hT X
theorem ps_newi {n : Nat} (hd : decode (pm_mb y) pc = .ok (.newarray .int, n)) {v} (hs : pm_newi n pc L st h = some v) : ∃ st' h', v = .inl (pc + 2, L, st', h') ∧ rz h ≤ rz h' ∧ rs h ≤ rs h' ∧ (pm_CX D cA base y p R s m args meth c → rz h' - z0 ≤ R.cells → rs h' - s0 ≤ R.slots → pm_KK D cA base y z0 s0 p l e R s m args below meth c Q (pc + 2) L st' h' → pm_KK D cA base y z0 s0 p l e R s m args below meth c Q pc L st h) := by
  unfold pm_newi at hs
  split at hs
  · rename_i x r
    split at hs
    · rename_i hx0
      cases hs
      refine ⟨_, _, rfl, by rw [rz_aN]; omega, by rw [rs_aN]; omega, fun CX hc1 hc2 kk => ?_⟩
      obtain ⟨hx, hb, hml, hr, hown, hts, hlocks, hin, hK, hNW, hbase, hfr, hlc⟩ := CX
      intro H locs cells slots ls F
      rw [rz_aN] at hc1
      rw [rs_aN] at hc2
      have harr : Cond.arrayClass .int ∈ pm_gd := pm_in_gd (pm_gw pm_misc_ok List.mem_cons_self) rfl
      refine va_newaK (atype := .int) hx hb (hts _ harr) rfl hd rfl hx0.1 rfl (by have := hx0.2; show _ * 4 ≤ _; omega) (by have := F.2.2.1; have := F.2.2.2.2.1; omega) (by have := F.2.2.2.1; have := F.2.2.2.2.2.1; omega) F.1.2.1 fun H1 cA1 e1 z1 o1 hAr hNm => ?_
      have hid : cA1 = cA 0 := Option.some.inj (hNm.symm.trans (hK.2 0 _ rfl).2)
      subst hid
      have hnew : rK (aN h (2, x.toNatClampNeg) x.toNatClampNeg) (rz h) = (2, x.toNatClampNeg) := by rw [rK_aN, if_pos rfl]
      refine kk _ _ _ _ _ (F.born (show (2 : Nat) ≠ 0 by decide) (show (2 : Nat) ≠ 3 by decide) (pm_ce_i hnew) ?_ z1 o1)
      show H1[rz h]? = some (vp_cell _ _)
      rw [e1, rI_aN, if_pos rfl]
      rfl
    · cases hs
  · cases hs
theorem pm_ej_ok {ci j : Nat} (h : pm_ej ci = some j) : j < 4 ∧ pm_el j = ci := by
  unfold pm_ej at h
  split at h
  · cases h; subst_vars; decide
  · split at h
    · cases h; subst_vars; decide
    · split at h
      · cases h; subst_vars; decide
      · split at h
        · cases h; subst_vars; decide
        · cases h
theorem ps_newr {ix n : Nat} (hd : decode (pm_mb y) pc = .ok (.anewarray ix, n)) {v} (hs : pm_newr y ix n pc L st h = some v) : ∃ st' h', v = .inl (pc + 3, L, st', h') ∧ rz h ≤ rz h' ∧ rs h ≤ rs h' ∧ (pm_CX D cA base y p R s m args meth c → rz h' - z0 ≤ R.cells → rs h' - s0 ≤ R.slots → pm_KK D cA base y z0 s0 p l e R s m args below meth c Q (pc + 3) L st' h' → pm_KK D cA base y z0 s0 p l e R s m args below meth c Q pc L st h) := by
  unfold pm_newr at hs
  split at hs
  · rename_i x r j hj
    split at hs
    · rename_i hx0
      cases hs
      refine ⟨_, _, rfl, by rw [rz_aN]; omega, by rw [rs_aN]; omega, fun CX hc1 hc2 kk => ?_⟩
      obtain ⟨hx, hb, hml, hr, hown, hts, hlocks, hin, hK, hNW, hbase, hfr, hlc⟩ := CX
      intro H locs cells slots ls F
      rw [rz_aN] at hc1
      rw [rs_aN] at hc2
      cases hkl : pm_kl (pm_oc y) ix with
      | none => rw [hkl] at hj; cases hj
      | some ci =>
        rw [hkl] at hj
        obtain ⟨hj4, hel⟩ := pm_ej_ok hj
        subst hel
        obtain ⟨q, hc, ht, hq⟩ := pm_tys_r (cA := cA) hj4
        have hcl := hts _ (pm_kl_ok hkl)
        refine W.anew hx hb hown hcl (va_AO.use (hNW.2 j hj4)) rfl hd rfl hx0.1 (by have := hx0.2; omega) (by have := F.2.2.1; have := F.2.2.2.2.1; omega) (by have := F.2.2.2.1; have := F.2.2.2.2.2.1; omega) fun cA1 kA comp f1 f2 f3 f4 => ?_
        obtain ⟨kA', comp', k1, k2, k3, k4⟩ := (hK.2 (1 + j) _ ht).2
        rw [hq] at k4
        have hid : cA1 = cA (1 + j) := Option.some.inj (f1.symm.trans k4)
        subst hid
        have hnew : rK (aN h (4 + j, x.toNatClampNeg) x.toNatClampNeg) (rz h) = (4 + j, x.toNatClampNeg) := by rw [rK_aN, if_pos rfl]
        rw [F.1.2.1]
        refine kk _ _ _ _ _ (F.born (show (4 + j : Nat) ≠ 0 by omega) (show (4 + j : Nat) ≠ 3 by omega) (pm_ce_r hnew) ?_ (by rw [Array.size_push, F.1.2.1]) (fun q hq => by rw [Array.getElem?_push, if_neg (by rw [F.1.2.1]; exact Nat.ne_of_lt hq)]))
        show _ = some (vp_cell _ _)
        rw [← F.1.2.1, Array.getElem?_push_size, F.1.2.1, rP_aN, if_pos rfl]
        exact congrArg some (arrV_new _ _ _)
    · cases hs
  · cases hs
theorem pm_cat4 (rest : List Value) (h : rest.length ≤ 4) : (rest.map fun v => v.category).sum ≤ 8 := by
  have h1 : ∀ l : List Value, (l.map fun v => v.category).sum ≤ 2 * l.length := by
    intro l
    induction l with
    | nil => simp
    | cons v l ih =>
      have := lv_cat v
      simp only [List.map_cons, List.sum_cons, List.length_cons]
      omega
  have := h1 rest
  omega
theorem ps_cpy (CX : pm_CX D cA base y p R s m args meth c) (hz0 : z0 = s.heap.size) {ix : Nat} (hd : decode (pm_mb y) pc = .ok (.invokestatic ix, 3)) (hix : (pm_oc y, ix) ∈ pm_cpy) {a a0 : Nat} {n dp sp : Int32} (hk : rK h a = (2, (rK h a).2)) (hk0 : rK h a0 = (2, (rK h a0).2)) (h1 : ¬ sp < 0) (h2 : ¬ dp < 0) (h3 : ¬ n < 0) (h4 : sp.toNatClampNeg + n.toNatClampNeg ≤ (rK h a0).2) (h5 : dp.toNatClampNeg + n.toNatClampNeg ≤ (rK h a).2) (hrl : r.length ≤ 4) (hf : 1 ≤ pm_fr y) (hl : 26 ≤ pm_lc y)
    (kk : pm_KK D cA base y z0 s0 p l e R s m args below meth c Q (pc + 3) L r (uA h a (va_cpy (rI h a0) (rI h a) sp.toNatClampNeg dp.toNatClampNeg n.toNatClampNeg))) : pm_KK D cA base y z0 s0 p l e R s m args below meth c Q pc L (.int n :: .int dp :: .ref a :: .int sp :: .ref a0 :: r) h := by
  obtain ⟨hx, hb, hml, hr, hown, hts, hlocks, hin, hK, hNW, hbase, hfr, hlc⟩ := CX
  intro H locs cells slots ls F
  have ho := pm_own (k := 2) F.1 (congrArg Prod.fst hk) (by decide) (by decide)
  have ho0 := pm_own (k := 2) F.1 (congrArg Prod.fst hk0) (by decide) (by decide)
  have hg := pm_pw_get (cA := cA) ho.1 ho.2
  have hg0 := pm_pw_get (cA := cA) ho0.1 ho0.2
  rw [pm_ce_i hk] at hg
  rw [pm_ce_i hk0] at hg0
  have hlink : Cond.methodLink (pm_cs (pm_oc y)) ix arraycopyName ∈ pm_gd := pm_in_gd (pm_gw pm_cpy_ok (List.mem_map.mpr ⟨_, hix, rfl⟩)) rfl
  have m2 : Cond.static arraycopyName ∈ pm_gd := pm_in_gd (pm_gw pm_misc_ok (List.mem_cons_of_mem _ List.mem_cons_self)) rfl
  have m3 : Cond.native arraycopyName ∈ pm_gd := pm_in_gd (pm_gw pm_misc_ok (List.mem_cons_of_mem _ (List.mem_cons_of_mem _ List.mem_cons_self))) rfl
  have m4 : Cond.initialized "java/lang/System" ∈ pm_gd := pm_in_gd (pm_gw pm_misc_ok (List.mem_cons_of_mem _ (List.mem_cons_of_mem _ (List.mem_cons_of_mem _ List.mem_cons_self)))) rfl
  have hc4 := pm_cat4 r hrl
  refine va_copyi hx hb (by rw [hml]; exact F.2.2.2.2.2.2.1.symm) hown (hts _ hlink) (hts _ m3) (hts _ m2) (hts _ m4) hK F.1.1 pm_pw_D (pm_SS F.2.1) (a0 - base) (a - base) 0 0 hg0 hg rfl rfl (ty := .int) rfl h1 h2 h3 h4 h5 (fun i hi => rfl) (by omega) (by show _ + (7 + 11) ≤ _; omega) hd (fun H1 locs1 hP1 hD1 hS1 => ?_)
  refine pm_W_size (fun hsz => ?_)
  have hz1 : H1.size = H.size := by
    have a1 := hS1.1
    have a2 := F.1.2.1
    have a3 := F.2.2.1
    have a4 := F.2.2.2.2.1
    rw [← hz0] at hsz
    omega
  refine kk _ _ _ _ _ ⟨F.1.write (h' := uA h a _) ho.1 rfl rfl (pm_ce_i hk) (fun b hb => ⟨by rw [rI_uA, if_neg hb], rfl, rfl⟩) ?_ hz1 (fun q hq => hS1.2.1 q (by have := F.1.2.1; have := F.1.2.2.1; omega) (by omega)), ⟨by rw [hz1]; exact F.2.1.1, fun q g1 g2 => (hS1.2.1 q (Nat.lt_of_lt_of_le g1 F.2.1.1) g2).trans (F.2.1.2.1 q g1 g2), hS1.2.2⟩, F.2.2.1, F.2.2.2.1, F.2.2.2.2.1, F.2.2.2.2.2.1, F.2.2.2.2.2.2⟩
  rw [rI_uA, if_pos rfl]
  exact hP1
end PMH
