/-! ROWS AND NEW CELLS -/
section PMH
variable {p : Program} {l : Launch} {e : Env} {R : Room} {s : State} {m : MethodId} {args : Array Value} {below : List Frame} {meth : Method} {c : Code} {Q : State → Prop}
variable {D : va_G} {cA : Nat → ClassId} {base y z0 s0 : Nat} {pc : Nat} {L : pm_L} {st r : List Value} {h : pm_H}
theorem pm_cell_i {cA : ClassId} {n i : Nat} {f : Nat → Int32} {x : Int32} : (vp_cell cA (n, .inl f)).setSlot i (.int x) = vp_cell cA (n, .inl (upd f i x)) := by
  rw [vp_cell_i, vp_cell_i, arrV_store]
  congr 1
  funext q
  by_cases hq : q = i
  · subst hq; simp [updV, upd]
  · simp [updV, upd, hq]
theorem pm_cell_r {cA : ClassId} {n i : Nat} {f : Nat → Option Nat} {b : Nat} : (vp_cell cA (n, .inr (.inr (.inr (.inr f))))).setSlot i (.ref b) = vp_cell cA (n, .inr (.inr (.inr (.inr (va_up f i (some b)))))) := by
  show (arrV cA n (fun j => va_rf (f j))).setSlot i (.ref b) = arrV cA n (fun j => va_rf (va_up f i (some b) j))
  rw [arrV_store]
  congr 1
  funext q
  by_cases hq : q = i
  · subst hq; simp [updV, va_up, va_rf]
  · simp [updV, va_up, hq]
theorem pm_SS {s : State} {H : Heap} {locs : List Loc} (hS : va_S (fun q => base ≤ q) s.heap H locs) : va_S (fun q => base ≤ q) H H locs := ⟨Nat.le_refl _, fun _ _ _ => rfl, hS.2.2⟩
theorem ps_iald (CX : pm_CX D cA base y p R s m args meth c) (hd : decode (pm_mb y) pc = .ok (.iaload, 1)) {a : Nat} {i : Int32} (hk : (rK h a).1 = 2 ∨ (rK h a).1 = 3) (hi : ¬ (i < 0 ∨ (rK h a).2 ≤ i.toNatClampNeg)) (kk : pm_KK D cA base y z0 s0 p l e R s m args below meth c Q (pc + 1) L (.int (rI h a i.toNatClampNeg) :: r) h) : pm_KK D cA base y z0 s0 p l e R s m args below meth c Q pc L (.int i :: .ref a :: r) h := by
  obtain ⟨hx, hb, hml, hr, hown, hts, hlocks, hin, hK, hNW, hbase, hfr, hlc⟩ := CX
  intro H locs cells slots ls F
  rcases hk with hk | hk
  · have ho := pm_own F.1 hk (by decide) (by decide)
    have hg := pm_pw_get (cA := cA) ho.1 ho.2
    rw [pm_ce_i (n := (rK h a).2) (by rw [← hk])] at hg
    exact va_iald hx hb hK F.1.1 (a - base) 0 hg rfl hi hd (kk _ _ _ _ _ F)
  · obtain ⟨g1, g2⟩ := F.1.2.2.2.2 a hk
    exact va_sld (A := fun q => base ≤ q) hx hb g2 (by rw [F.1.2.1]; exact Nat.lt_of_lt_of_le g1 F.1.2.2.1) (by omega) (pm_SS F.2.1) hi hd (kk _ _ _ _ _ F)
theorem ps_alen (CX : pm_CX D cA base y p R s m args meth c) (hd : decode (pm_mb y) pc = .ok (.arraylength, 1)) {a : Nat} (hk : 2 ≤ (rK h a).1 ∧ (rK h a).1 < 8) (kk : pm_KK D cA base y z0 s0 p l e R s m args below meth c Q (pc + 1) L (.int (Int32.ofNat (rK h a).2) :: r) h) : pm_KK D cA base y z0 s0 p l e R s m args below meth c Q pc L (.ref a :: r) h := by
  obtain ⟨hx, hb, hml, hr, hown, hts, hlocks, hin, hK, hNW, hbase, hfr, hlc⟩ := CX
  intro H locs cells slots ls F
  by_cases h3 : (rK h a).1 = 3
  · obtain ⟨g1, g2⟩ := F.1.2.2.2.2 a h3
    exact va_slen (A := fun q => base ≤ q) hx hb g2 (by rw [F.1.2.1]; exact Nat.lt_of_lt_of_le g1 F.1.2.2.1) (by omega) (pm_SS F.2.1) hd (kk _ _ _ _ _ F)
  · have ho := pm_own F.1 (a := a) rfl (by omega) h3
    have hg := pm_pw_get (cA := cA) ho.1 ho.2
    by_cases h2 : (rK h a).1 = 2
    · rw [pm_ce_i (n := (rK h a).2) (by rw [← h2])] at hg
      exact va_alen hx hb hK F.1.1 (a - base) 0 hg (ty := .int) rfl rfl hd (kk _ _ _ _ _ F)
    · obtain ⟨j, hj⟩ : ∃ j, (rK h a).1 = 4 + j := ⟨(rK h a).1 - 4, by omega⟩
      rw [pm_ce_r (j := j) (n := (rK h a).2) (by rw [← hj])] at hg
      have hj4 : j < 4 := by omega
      have ht : ∃ ty, (pm_tys cA)[1 + j]? = some (cA (1 + j), ty) := by
        match j, hj4 with
        | 0, _ => exact ⟨_, rfl⟩
        | 1, _ => exact ⟨_, rfl⟩
        | 2, _ => exact ⟨_, rfl⟩
        | 3, _ => exact ⟨_, rfl⟩
      obtain ⟨ty, ht⟩ := ht
      exact va_alen hx hb hK F.1.1 (a - base) (1 + j) hg ht rfl hd (kk _ _ _ _ _ F)
theorem pm_tys_r {j : Nat} (h : j < 4) : ∃ (q : vw_C), pm_cl[pm_el j]? = some q ∧ (pm_tys cA)[1 + j]? = some (cA (1 + j), .object q.1) ∧ q.1 = pm_cs (pm_el j) := by
  match j, h with
  | 0, _ => exact ⟨_, rfl, rfl, rfl⟩
  | 1, _ => exact ⟨_, rfl, rfl, rfl⟩
  | 2, _ => exact ⟨_, rfl, rfl, rfl⟩
  | 3, _ => exact ⟨_, rfl, rfl, rfl⟩
theorem ps_aald (CX : pm_CX D cA base y p R s m args meth c) (hd : decode (pm_mb y) pc = .ok (.aaload, 1)) {a : Nat} {i : Int32} (hk : 4 ≤ (rK h a).1 ∧ (rK h a).1 < 8) (hi : ¬ (i < 0 ∨ (rK h a).2 ≤ i.toNatClampNeg)) (kk : pm_KK D cA base y z0 s0 p l e R s m args below meth c Q (pc + 1) L (va_rf (rP h a i.toNatClampNeg) :: r) h) : pm_KK D cA base y z0 s0 p l e R s m args below meth c Q pc L (.int i :: .ref a :: r) h := by
  obtain ⟨hx, hb, hml, hr, hown, hts, hlocks, hin, hK, hNW, hbase, hfr, hlc⟩ := CX
  intro H locs cells slots ls F
  have ho := pm_own F.1 (a := a) rfl (by omega) (by omega)
  have hg := pm_pw_get (cA := cA) ho.1 ho.2
  obtain ⟨j, hj⟩ : ∃ j, (rK h a).1 = 4 + j := ⟨(rK h a).1 - 4, by omega⟩
  rw [pm_ce_r (j := j) (n := (rK h a).2) (by rw [← hj])] at hg
  obtain ⟨q, -, ht, -⟩ := pm_tys_r (cA := cA) (j := j) (by omega)
  exact va_aldq hx hb hK F.1.1 (a - base) (1 + j) hg ht hi hd (kk _ _ _ _ _ F)
theorem ps_iast (CX : pm_CX D cA base y p R s m args meth c) (hd : decode (pm_mb y) pc = .ok (.iastore, 1)) {a : Nat} {i x : Int32} (hk : (rK h a).1 = 2) (hi : ¬ (i < 0 ∨ (rK h a).2 ≤ i.toNatClampNeg)) (kk : pm_KK D cA base y z0 s0 p l e R s m args below meth c Q (pc + 1) L r (uI h a i.toNatClampNeg x)) : pm_KK D cA base y z0 s0 p l e R s m args below meth c Q pc L (.int x :: .int i :: .ref a :: r) h := by
  obtain ⟨hx, hb, hml, hr, hown, hts, hlocks, hin, hK, hNW, hbase, hfr, hlc⟩ := CX
  intro H locs cells slots ls F
  have ho := pm_own F.1 hk (by decide) (by decide)
  have hg := pm_pw_get (cA := cA) ho.1 ho.2
  have hk2 : rK h a = (2, (rK h a).2) := by rw [← hk]
  rw [pm_ce_i hk2] at hg
  refine W.iast hx hb (F.1.1 _ _ hg) ((hK.2 0 _ rfl).1 _ (fun j => .int (rI h a j))) (fun q => by cases q) (by show ¬ (i < 0 ∨ (arrV _ _ _).slots.size ≤ _); rw [arrV_size]; exact hi) rfl rfl hd fun H1 e1 z1 oq => ?_
  have hE : va_at D pm_cl (a, .inl (cA 0, (rK h a).2, .inl (upd (rI h a) i.toNatClampNeg x))) H1 := by
    show H1[a]? = some (vp_cell _ _)
    rw [e1, pm_cell_i]
  refine kk _ _ _ _ _ ⟨F.1.write (h' := uI h a i.toNatClampNeg x) ho.1 rfl rfl (pm_ce_i hk2) (fun b hb => ⟨by rw [rI_uI, if_neg hb], rfl, rfl⟩) ?_ z1 (fun q hq => oq q (Nat.ne_of_lt (Nat.lt_of_lt_of_le hq ho.1))), F.2.1.put z1 oq ho.1, F.2.2.1, F.2.2.2.1, F.2.2.2.2.1, F.2.2.2.2.2.1, F.2.2.2.2.2.2⟩
  rw [rI_uI, if_pos rfl]
  exact F.1.1.set pm_pw_D hg hE oq
theorem ps_aast (CX : pm_CX D cA base y p R s m args meth c) (hd : decode (pm_mb y) pc = .ok (.aastore, 1)) {a b : Nat} {i : Int32} (hk : 4 ≤ (rK h a).1 ∧ (rK h a).1 < 8) (hkb : rK h b = (1, pm_el ((rK h a).1 - 4))) (hi : ¬ (i < 0 ∨ (rK h a).2 ≤ i.toNatClampNeg)) (kk : pm_KK D cA base y z0 s0 p l e R s m args below meth c Q (pc + 1) L r (uP h a i.toNatClampNeg (some b))) : pm_KK D cA base y z0 s0 p l e R s m args below meth c Q pc L (.ref b :: .int i :: .ref a :: r) h := by
  obtain ⟨hx, hb, hml, hr, hown, hts, hlocks, hin, hK, hNW, hbase, hfr, hlc⟩ := CX
  intro H locs cells slots ls F
  have ho := pm_own F.1 (a := a) rfl (by omega) (by omega)
  have hob := pm_own (k := 1) F.1 (congrArg Prod.fst hkb) (by decide) (by decide)
  have hg := pm_pw_get (cA := cA) ho.1 ho.2
  have hgb := pm_pw_get (cA := cA) hob.1 hob.2
  obtain ⟨j, hj⟩ : ∃ j, (rK h a).1 = 4 + j := ⟨(rK h a).1 - 4, by omega⟩
  have hk2 : rK h a = (4 + j, (rK h a).2) := by rw [← hj]
  rw [hj, show 4 + j - 4 = j by omega] at hkb
  rw [pm_ce_r hk2] at hg
  rw [pm_ce_o hkb] at hgb
  obtain ⟨q, hc, ht, -⟩ := pm_tys_r (cA := cA) (j := j) (by omega)
  have hlt : i.toNatClampNeg < (rK h a).2 := Nat.not_le.mp fun q => hi (Or.inr q)
  have h0 : ¬ i < 0 := fun q => hi (Or.inl q)
  obtain ⟨r', hr', cellV, g1, g2, g3, -⟩ := F.1.1 _ _ hgb
  have hcls := (hK.1 (pm_el j) q hc).2
  obtain ⟨kA, comp, k1, k2, k3, -⟩ := (hK.2 (1 + j) _ ht).2
  have hcomp : comp = D.1 (pm_el j) := Option.some.inj (k3.symm.trans hcls.1)
  subst hcomp
  obtain ⟨kC, hkC, -⟩ := hcls.2
  refine W.aast hx hb (F.1.1 _ _ hg) (fun q h => by cases h) (fun h => by cases h) k1 k2 rfl hkC ⟨h0, by show _ < (arrV _ _ _).slots.size; rw [arrV_size]; exact hlt⟩ g1 (fun q h => by rw [g3] at h; cases h) (by rw [g2]; exact hkC) (by rw [g2]; exact va_assign hcls) rfl rfl hd fun H1 e1 z1 oq => ?_
  have hE : va_at D pm_cl (a, .inl (cA (1 + j), (rK h a).2, .inr (.inr (.inr (.inr (va_up (rP h a) i.toNatClampNeg (some b))))))) H1 := by
    show H1[a]? = some (vp_cell _ _)
    rw [e1, pm_cell_r]
  refine kk _ _ _ _ _ ⟨F.1.write (h' := uP h a i.toNatClampNeg (some b)) ho.1 rfl rfl (pm_ce_r hk2) (fun b hb => ⟨rfl, rfl, by rw [rP_uP, if_neg hb]⟩) ?_ z1 (fun q hq => oq q (Nat.ne_of_lt (Nat.lt_of_lt_of_le hq ho.1))), F.2.1.put z1 oq ho.1, F.2.2.1, F.2.2.2.1, F.2.2.2.2.1, F.2.2.2.2.2.1, F.2.2.2.2.2.2⟩
  rw [rP_uP, if_pos rfl]
  exact F.1.1.set pm_pw_D hg hE oq
/-- the world behind a new cell -/
theorem pm_Wd.born {s : State} {h : pm_H} {H H1 : Heap} {kd : Nat × Nat} {n : Nat} {E : va_E} (F : pm_Wd D cA base h s H) (h0 : kd.1 ≠ 0) (h3 : kd.1 ≠ 3) (hE : pm_ce cA (aN h kd n) (rz h) = E) (hat : va_at D pm_cl (rz h, E) H1) (hsz : H1.size = rz h + 1) (ho : ∀ q, q < rz h → H1[q]? = H[q]?) : pm_Wd D cA base (aN h kd n) s H1 := by
  obtain ⟨f1, f2, f3, f4, f5⟩ := F
  have hne : ∀ b, b < rz h → ¬ b = rz h := fun b hb => Nat.ne_of_lt hb
  have hce : ∀ b, b < rz h → pm_ce cA (aN h kd n) b = pm_ce cA h b := fun b hb => pm_ce_eq (by rw [rK_aN, if_neg (hne b hb)]) (by rw [rI_aN, if_neg (hne b hb)]) (by rw [rJ_aN, if_neg (hne b hb)]) (by rw [rP_aN, if_neg (hne b hb)])
  refine ⟨?_, by rw [hsz, rz_aN], by rw [rz_aN]; omega, fun a ha ha3 => ?_, fun a ha => ?_⟩
  · rw [← pm_pw_push f3 (rz_aN h kd n) hE hce]
    refine (f1.kept (fun k q hq => ?_)).app (fun k q hq => ?_)
    · obtain ⟨hk, rfl⟩ := pm_pw_at hq
      exact ho _ (by omega)
    · have hz : k < 1 := (List.getElem?_eq_some_iff.mp hq).1
      rw [show k = 0 by omega] at hq
      cases hq
      exact hat
  · rw [rK_aN] at ha ha3
    rw [rz_aN]
    by_cases e : a = rz h
    · omega
    · rw [if_neg e] at ha ha3
      have := f4 a ha ha3
      omega
  · rw [rK_aN] at ha ⊢
    by_cases e : a = rz h
    · rw [if_pos e] at ha; exact absurd ha h3
    · rw [if_neg e] at ha ⊢
      rw [rI_aN, if_neg e]
      obtain ⟨g1, g2⟩ := f5 a ha
      exact ⟨g1, g2.kept (ho a (by omega))⟩
theorem pm_FS.born {s : State} {h : pm_H} {H H1 : Heap} {locs : List Loc} {cells slots : Nat} {ls : Array Slot} {kd : Nat × Nat} {n : Nat} {E : va_E} (F : pm_FS D cA base y z0 s0 s L h H locs cells slots ls) (h0 : kd.1 ≠ 0) (h3 : kd.1 ≠ 3) (hE : pm_ce cA (aN h kd n) (rz h) = E) (hat : va_at D pm_cl (rz h, E) H1) (hsz : H1.size = rz h + 1) (ho : ∀ q, q < rz h → H1[q]? = H[q]?) : pm_FS D cA base y z0 s0 s L (aN h kd n) H1 locs (cells + 1) (slots + n) ls := by
  obtain ⟨f1, f2, f3, f4, f5, f6, f7⟩ := F
  have hz := f1.2.1
  refine ⟨f1.born h0 h3 hE hat hsz ho, ⟨Nat.le_trans f2.1 (by omega), fun x h1 h2 => (ho x (by rw [← hz]; exact Nat.lt_of_lt_of_le h1 f2.1)).trans (f2.2.1 x h1 h2), f2.2.2⟩, ?_, ?_, ?_, ?_, f7⟩
  · rw [rz_aN]; omega
  · rw [rs_aN]; omega
  · rw [rz_aN]; omega
  · rw [rs_aN]; omega
theorem ps_newo {ix n : Nat} (hd : decode (pm_mb y) pc = .ok (.new ix, n)) {v} (hs : pm_newo y ix n pc L st h = some v) : ∃ st' h', v = .inl (pc + 3, L, st', h') ∧ rz h ≤ rz h' ∧ rs h ≤ rs h' ∧ (pm_CX D cA base y p R s m args meth c → rz h' - z0 ≤ R.cells → rs h' - s0 ≤ R.slots → pm_KK D cA base y z0 s0 p l e R s m args below meth c Q (pc + 3) L st' h' → pm_KK D cA base y z0 s0 p l e R s m args below meth c Q pc L st h) := by
  unfold pm_newo at hs
  split at hs
  · rename_i ci hk
    split at hs
    · rename_i hci
      cases hs
      refine ⟨_, _, rfl, by rw [rz_aN]; omega, by rw [rs_aN]; omega, fun CX hc1 hc2 kk => ?_⟩
      obtain ⟨hx, hb, hml, hr, hown, hts, hlocks, hin, hK, hNW, hbase, hfr, hlc⟩ := CX
      intro H locs cells slots ls F
      obtain ⟨C, T, N, ty, hc, hC, hN, hws, hty, hnm, hT⟩ := pm_class hci
      have hKn := hK.1 ci _ hc
      have hcl := hts _ (pm_kl_ok hk)
      rw [← hC] at hcl
      have hinst : Cond.instantiable C N ∈ pm_gd := pm_in_gd (pm_gw pm_in_ok (List.mem_map.mpr ⟨_, List.mem_of_getElem? hc, rfl⟩)) rfl
      have hini : Cond.initialized C ∈ pm_gd := pm_in_gd (pm_gw pm_ii_ok (List.mem_map.mpr ⟨_, List.mem_of_getElem? hc, rfl⟩)) rfl
      rw [rz_aN] at hc1
      rw [rs_aN] at hc2
      refine W.newcK hx hb hown hcl (hts _ hinst) (hts _ hini) rfl hd (by have := F.2.2.1; have := F.2.2.2.2.1; omega) (by have := F.2.2.2.1; have := F.2.2.2.2.2.1; omega) hKn.2.1 F.1.2.1 fun H1 kC hkC e1 z1 o1 => ?_
      have hnew : rK (aN h (1, ci) (pm_nf ci)) (rz h) = (1, ci) := by rw [rK_aN, if_pos rfl]
      have hfin := F.born (kd := (1, ci)) (n := pm_nf ci) (show (1 : Nat) ≠ 0 by decide) (show (1 : Nat) ≠ 3 by decide) (pm_ce_o hnew) ⟨_, hc, (u_born ty hts hws hKn hkC e1 hty).to ?_⟩ z1 o1
      · rw [← hN] at hfin
        rw [← hN] at kk
        exact kk _ _ _ _ _ hfin
      · intro k hkN
        have hkn : k < pm_nf ci := by rw [← hN]; exact hkN
        have : vp_V (pm_fs (aN h (1, ci) (pm_nf ci)) (rz h) ci) k = pm_fv (aN h (1, ci) (pm_nf ci)) (rz h) (pm_fkk ci k) k := by simp [vp_V, pm_fs, hkn]
        rw [this]
        rcases (hT k hkN).2.2 with ⟨a1, a2⟩ | ⟨a1, a2⟩ | ⟨a1, a2⟩
        · rw [a1, a2]; simp [pm_fv, rI_aN, defaultValue]
        · rw [a1, a2]; simp [pm_fv, rJ_aN, defaultValue]
        · rw [a1]
          simp only [pm_fv, rP_aN]
          cases ht : ty k <;> rw [ht] at a2 <;> first | rfl | cases a2
    · cases hs
  · cases hs
end PMH
