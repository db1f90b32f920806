/-! EACH STEP OF THE PURE MACHINE IS ONE OF THE MACHINE -/
/-- what a class's tables say -/
theorem pm_ws_gd {ci : Nat} (h : ci < 10) : ∀ w ∈ (match pm_cl[ci]? with | some q => u_ws q.1 q.2.1 q.2.2 | none => []), w ∈ lw_tbl := fun _ hw => pm_gw (pm_ly_ok ci h) hw
theorem pm_uws_good {C : String} {T : u_T} {N : Nat} {w : Cond} (h : w ∈ u_ws C T N) : goodWord w = true := by
  obtain ⟨k, -, rfl⟩ := List.mem_map.mp h
  unfold u_lay
  split <;> rfl
def pm_Cls (ci : Nat) (C : String) (T : u_T) (N : Nat) (ty : Nat → FieldType) : Prop :=
  pm_cl[ci]? = some (C, T, N) ∧ C = pm_cs ci ∧ N = pm_nf ci ∧ (∀ w ∈ u_ws C T N, w ∈ pm_gd) ∧ (∀ k, k < N → parseFieldDescriptor (T k).2.2.1 = some (ty k)) ∧ (∀ a, a < N → ∀ b, b < N → a ≠ b → (T a).2.1 ≠ (T b).2.1) ∧
  ∀ k, k < N → (T k).1 = C ∧ (T k).2.2.2 = pm_fff ci k ∧ ((pm_fkk ci k = 0 ∧ ty k = .int) ∨ (pm_fkk ci k = 1 ∧ ty k = .long) ∨ (pm_fkk ci k = 2 ∧ (ty k).isReference = true))
theorem pm_class {ci : Nat} (h : ci < 10) : ∃ (C : String) (T : u_T) (N : Nat) (ty : Nat → FieldType), pm_Cls ci C T N ty := by
  have hg := pm_ws_gd h
  match ci, h, hg with
  | 0, _, hg => exact ⟨_, pm_T0, 4, pm_ty0, rfl, rfl, rfl, fun w hw => pm_in_gd (hg w hw) (pm_uws_good hw), pm_ty0_ok, pm_nm0, by decide +kernel⟩
  | 1, _, hg => exact ⟨_, pm_T1, 5, pm_ty1, rfl, rfl, rfl, fun w hw => pm_in_gd (hg w hw) (pm_uws_good hw), pm_ty1_ok, pm_nm1, by decide +kernel⟩
  | 2, _, hg => exact ⟨_, pm_T2, 2, pm_ty2, rfl, rfl, rfl, fun w hw => pm_in_gd (hg w hw) (pm_uws_good hw), pm_ty2_ok, pm_nm2, by decide +kernel⟩
  | 3, _, hg => exact ⟨_, pm_T3, 4, pm_ty3, rfl, rfl, rfl, fun w hw => pm_in_gd (hg w hw) (pm_uws_good hw), pm_ty3_ok, pm_nm3, by decide +kernel⟩
  | 4, _, hg => exact ⟨_, pm_T4, 3, pm_ty4, rfl, rfl, rfl, fun w hw => pm_in_gd (hg w hw) (pm_uws_good hw), pm_ty4_ok, pm_nm4, by decide +kernel⟩
  | 5, _, hg => exact ⟨_, pm_T5, 2, pm_ty5, rfl, rfl, rfl, fun w hw => pm_in_gd (hg w hw) (pm_uws_good hw), pm_ty5_ok, pm_nm5, by decide +kernel⟩
  | 6, _, hg => exact ⟨_, pm_T6, 2, pm_ty6, rfl, rfl, rfl, fun w hw => pm_in_gd (hg w hw) (pm_uws_good hw), pm_ty6_ok, pm_nm6, by decide +kernel⟩
  | 7, _, hg => exact ⟨_, pm_T7, 6, pm_ty7, rfl, rfl, rfl, fun w hw => pm_in_gd (hg w hw) (pm_uws_good hw), pm_ty7_ok, pm_nm7, by decide +kernel⟩
  | 8, _, hg => exact ⟨_, pm_T8, 6, pm_ty8, rfl, rfl, rfl, fun w hw => pm_in_gd (hg w hw) (pm_uws_good hw), pm_ty8_ok, pm_nm8, by decide +kernel⟩
  | 9, _, hg => exact ⟨_, pm_T9, 23, pm_ty9, rfl, rfl, rfl, fun w hw => pm_in_gd (hg w hw) (pm_uws_good hw), pm_ty9_ok, pm_nm9, by decide +kernel⟩
/-- lookups are of the lists -/
theorem pm_find {α : Type} {l : List (Nat × Nat × α)} {c i : Nat} {v : α} (h : (l.find? (fun e => e.1 == c && e.2.1 == i)).map (fun e => e.2.2) = some v) : (c, i, v) ∈ l := by
  cases hf : l.find? (fun e => e.1 == c && e.2.1 == i) with
  | none => rw [hf] at h; cases h
  | some e =>
    rw [hf] at h
    have h1 := List.find?_some hf
    have h2 := List.mem_of_find?_eq_some hf
    simp only [Bool.and_eq_true, beq_iff_eq] at h1
    obtain ⟨a, b, x⟩ := e
    simp at h h1
    obtain ⟨rfl, rfl⟩ := h1
    subst h
    exact h2
set_option maxRecDepth 100000 in
theorem pm_fls_in : ∀ e ∈ pm_fls, e.2.2.1 < 10 ∧ e.2.2.2 < pm_nf e.2.2.1 := by decide +kernel
theorem pm_fl_ok {c ix ci k : Nat} (h : pm_fl c ix = some (ci, k)) : ci < 10 ∧ k < pm_nf ci ∧ ∀ (C : String) (T : u_T) (N : Nat), pm_cl[ci]? = some (C, T, N) → Cond.fieldLink (pm_cs c) ix (T k).1 (T k).2.1 (T k).2.2.1 ∈ pm_gd := by
  have hm : (c, ix, ci, k) ∈ pm_fls := pm_find h
  have h1 := pm_fls_in _ hm
  refine ⟨h1.1, h1.2, fun C T N hc => pm_in_gd (pm_gw pm_fls_ok (List.mem_map.mpr ⟨_, hm, ?_⟩)) rfl⟩
  simp only [hc]
theorem pm_kl_ok {c ix ci : Nat} (h : pm_kl c ix = some ci) : Cond.classLink (pm_cs c) ix (pm_cs ci) ∈ pm_gd :=
  pm_in_gd (pm_gw pm_kls_ok (List.mem_map.mpr ⟨_, pm_find h, rfl⟩)) rfl
theorem pm_ki_ok {c ix : Nat} {v : Int32} (h : pm_ki c ix = some v) : Cond.constant (pm_cs c) ix v ∈ pm_gd :=
  pm_in_gd (pm_gw pm_ks_ok (List.mem_map.mpr ⟨_, pm_find h, rfl⟩)) rfl
theorem pm_kj_ok {c ix : Nat} {v : Int64} (h : pm_kj c ix = some v) : Cond.constantLong (pm_cs c) ix v ∈ pm_gd :=
  pm_in_gd (pm_gw pm_js_ok (List.mem_map.mpr ⟨_, pm_find h, rfl⟩)) rfl
/-- the fields of an object, written -/
theorem pm_map_set {n : Nat} {f f' : Nat → Value} {k : Nat} {v : Value} (hk : f' k = v) (ho : ∀ j, j ≠ k → f' j = f j) : ((List.range n).map f).set k v = (List.range n).map f' := by
  apply List.ext_getElem?
  intro j
  by_cases hj : j < n
  · by_cases hjk : j = k
    · subst hjk
      rw [List.getElem?_set_self (by simpa using hj)]
      simp [hj, hk]
    · rw [List.getElem?_set_ne (Ne.symm hjk)]
      simp [hj, ho j hjk]
  · rw [List.getElem?_eq_none (by simp; omega), List.getElem?_eq_none (by simp; omega)]
theorem pm_stv_fs {h h' : pm_H} {a t k ci : Nat} {v : Value} (hs : pm_stv h a t k v = some h') (ht : pm_fkk ci k = t) : (pm_fs h a ci).set k v = pm_fs h' a ci := by
  unfold pm_stv at hs
  subst ht
  cases v with
  | int x =>
    simp only at hs
    split at hs
    · rename_i h0
      cases hs
      refine pm_map_set ?_ (fun j hj => ?_)
      · simp [pm_fv, h0, rI_uI, pk_us]
      · simp [pm_fv, rI_uI, rJ_uI, rP_uI, pk_un hj]
    · cases hs
  | long x =>
    simp only at hs
    split at hs
    · rename_i h0
      cases hs
      refine pm_map_set ?_ (fun j hj => ?_)
      · simp [pm_fv, h0, rJ_uJ, pk_uLs]
      · simp [pm_fv, rI_uJ, rJ_uJ, rP_uJ, pk_uLn hj]
    · cases hs
  | ref b =>
    simp only at hs
    split at hs
    · rename_i h0
      cases hs
      refine pm_map_set ?_ (fun j hj => ?_)
      · simp [pm_fv, h0, rP_uP, va_up, va_rf]
      · simp [pm_fv, rI_uP, rJ_uP, rP_uP, va_up, hj]
    · cases hs
  | _ => cases hs
theorem pm_stv_o {h h' : pm_H} {a t k : Nat} {v : Value} (hs : pm_stv h a t k v = some h') : rK h' = rK h ∧ rz h' = rz h ∧ rs h' = rs h ∧ ∀ b, b ≠ a → rI h' b = rI h b ∧ rJ h' b = rJ h b ∧ rP h' b = rP h b := by
  unfold pm_stv at hs
  cases v with
  | int x =>
    simp only at hs
    split at hs
    · cases hs
      exact ⟨rfl, rfl, rfl, fun b hb => ⟨by rw [rI_uI, if_neg hb], rfl, rfl⟩⟩
    · cases hs
  | long x =>
    simp only at hs
    split at hs
    · cases hs
      exact ⟨rfl, rfl, rfl, fun b hb => ⟨rfl, by rw [rJ_uJ, if_neg hb], rfl⟩⟩
    · cases hs
  | ref q =>
    simp only at hs
    split at hs
    · cases hs
      exact ⟨rfl, rfl, rfl, fun b hb => ⟨rfl, rfl, by rw [rP_uP, if_neg hb]⟩⟩
    · cases hs
  | _ => cases hs
