/-! THE PURE HEAP AS A WORLD OF THE KIT -/
def pm_tys (cA : Nat → ClassId) : List (ClassId × FieldType) := [(cA 0, .int), (cA 1, .object "PaneDesk$Box"), (cA 2, .object "PaneDesk$Desk"), (cA 3, .object "PaneDesk$Layout"), (cA 4, .object "PaneDesk$Row")]
def pm_ce (cA : Nat → ClassId) (h : pm_H) (a : Nat) : va_E := if (rK h a).1 = 1 then .inr ((rK h a).2, pm_fs h a (rK h a).2) else if (rK h a).1 = 2 then .inl (cA 0, (rK h a).2, .inl (rI h a)) else .inl (cA ((rK h a).1 - 3), (rK h a).2, .inr (.inr (.inr (.inr (rP h a)))))
def pm_pw (base : Nat) (cA : Nat → ClassId) (h : pm_H) : va_W := (List.range (rz h - base)).map (fun i => (base + i, pm_ce cA h (base + i)))
def pm_gd : List Cond := lw_tbl.filter goodWord
def pm_nest : List Cond := (pm_lks.filter (fun e => e.2.2.2)).map (fun e => Cond.methodLinkNest (pm_cs e.1) e.2.1 (pm_nm e.2.2.1) "PaneDesk")
def pm_NW (U : State) : Prop := (∀ w ∈ pm_nest, va_Nw w U) ∧ ∀ j, j < 4 → va_AO (pm_cs (pm_el j)) U
theorem pm_in_gd {w : Cond} (h : w ∈ lw_tbl) (hg : goodWord w = true) : w ∈ pm_gd := List.mem_filter.mpr ⟨h, hg⟩
theorem pm_gd_good {w : Cond} (h : w ∈ pm_gd) : (w.onTables && w.keeps) = true ∨ ∃ ty, w = .arrayClass ty := good_of_word (List.mem_filter.mp h).2
theorem pm_pw_get {base : Nat} {cA : Nat → ClassId} {h : pm_H} {a : Nat} (h1 : base ≤ a) (h2 : a < rz h) : (pm_pw base cA h)[a - base]? = some (a, pm_ce cA h a) := by
  have h3 : a - base < rz h - base := by omega
  have h4 : base + (a - base) = a := by omega
  simp [pm_pw, h3, h4]
theorem pm_pw_len {base : Nat} {cA : Nat → ClassId} {h : pm_H} : (pm_pw base cA h).length = rz h - base := by simp [pm_pw]
theorem pm_pw_at {base : Nat} {cA : Nat → ClassId} {h : pm_H} {k : Nat} {q : Nat × va_E} (hq : (pm_pw base cA h)[k]? = some q) : k < rz h - base ∧ q = (base + k, pm_ce cA h (base + k)) := by
  have hk : k < (pm_pw base cA h).length := (List.getElem?_eq_some_iff.mp hq).1
  rw [pm_pw_len] at hk
  have h1 := pm_pw_get (base := base) (cA := cA) (h := h) (a := base + k) (by omega) (by omega)
  rw [show base + k - base = k by omega, hq] at h1
  exact ⟨hk, Option.some.inj h1⟩
theorem pm_pw_D {base : Nat} {cA : Nat → ClassId} {h : pm_H} : va_D (fun q => base ≤ q) (pm_pw base cA h) := by
  refine ⟨fun i j p q hi hj hpq => ?_, fun k q hk => ?_⟩
  · obtain ⟨-, rfl⟩ := pm_pw_at hi
    obtain ⟨-, rfl⟩ := pm_pw_at hj
    simp only at hpq
    omega
  · obtain ⟨-, rfl⟩ := pm_pw_at hk
    exact Nat.le_add_right base k
theorem pm_pw_set {base : Nat} {cA : Nat → ClassId} {h h' : pm_H} {a : Nat} {E : va_E} (hz : rz h' = rz h) (hE : pm_ce cA h' a = E) (ho : ∀ b, b ≠ a → pm_ce cA h' b = pm_ce cA h b) (h1 : base ≤ a) : (pm_pw base cA h).set (a - base) (a, E) = pm_pw base cA h' := by
  apply List.ext_getElem?
  intro k
  by_cases hk : k < rz h - base
  · by_cases hka : k = a - base
    · subst hka
      rw [List.getElem?_set_self (by rw [pm_pw_len]; exact hk)]
      rw [pm_pw_get h1 (by omega), hE]
    · rw [List.getElem?_set_ne (Ne.symm hka)]
      have e1 := pm_pw_get (base := base) (cA := cA) (h := h) (a := base + k) (by omega) (by omega)
      have e2 := pm_pw_get (base := base) (cA := cA) (h := h') (a := base + k) (by omega) (by omega)
      rw [show base + k - base = k by omega] at e1 e2
      rw [e1, e2, ho (base + k) (by omega)]
  · have l1 : ((pm_pw base cA h).set (a - base) (a, E)).length ≤ k := by rw [List.length_set, pm_pw_len]; omega
    have l2 : (pm_pw base cA h').length ≤ k := by rw [pm_pw_len, hz]; omega
    rw [List.getElem?_eq_none l1, List.getElem?_eq_none l2]
theorem pm_pw_push {base : Nat} {cA : Nat → ClassId} {h h' : pm_H} {E : va_E} (hb : base ≤ rz h) (hz : rz h' = rz h + 1) (hE : pm_ce cA h' (rz h) = E) (ho : ∀ b, b < rz h → pm_ce cA h' b = pm_ce cA h b) : pm_pw base cA h ++ [(rz h, E)] = pm_pw base cA h' := by
  apply List.ext_getElem?
  intro k
  by_cases hk : k < rz h - base
  · rw [List.getElem?_append_left (by rw [pm_pw_len]; exact hk)]
    have e1 := pm_pw_get (base := base) (cA := cA) (h := h) (a := base + k) (by omega) (by omega)
    have e2 := pm_pw_get (base := base) (cA := cA) (h := h') (a := base + k) (by omega) (by omega)
    rw [show base + k - base = k by omega] at e1 e2
    rw [e1, e2, ho (base + k) (by omega)]
  · rw [List.getElem?_append_right (by rw [pm_pw_len]; omega), pm_pw_len]
    by_cases hk2 : k = rz h - base
    · subst hk2
      rw [pm_pw_get hb (by omega), hE]
      simp
    · have l2 : (pm_pw base cA h').length ≤ k := by rw [pm_pw_len, hz]; omega
      rw [List.getElem?_eq_none l2, List.getElem?_eq_none (by simp; omega)]
theorem pm_ce_o {cA : Nat → ClassId} {h : pm_H} {a ci : Nat} (hk : rK h a = (1, ci)) : pm_ce cA h a = .inr (ci, pm_fs h a ci) := by simp [pm_ce, hk]
theorem pm_ce_i {cA : Nat → ClassId} {h : pm_H} {a n : Nat} (hk : rK h a = (2, n)) : pm_ce cA h a = .inl (cA 0, n, .inl (rI h a)) := by simp [pm_ce, hk]
theorem pm_ce_r {cA : Nat → ClassId} {h : pm_H} {a j n : Nat} (hk : rK h a = (4 + j, n)) : pm_ce cA h a = .inl (cA (1 + j), n, .inr (.inr (.inr (.inr (rP h a))))) := by
  have h1 : ¬ 4 + j = 1 := by omega
  have h2 : ¬ 4 + j = 2 := by omega
  have h3 : 4 + j - 3 = 1 + j := by omega
  simp [pm_ce, hk, h1, h2, h3]
theorem pm_ce_eq {cA : Nat → ClassId} {h h' : pm_H} {b : Nat} (h1 : rK h' b = rK h b) (h2 : rI h' b = rI h b) (h3 : rJ h' b = rJ h b) (h4 : rP h' b = rP h b) : pm_ce cA h' b = pm_ce cA h b := by
  simp only [pm_ce, pm_fs, pm_fv, h1, h2, h3, h4]
/-- the world of the pure heap h in the heap H -/
def pm_Wd (D : va_G) (cA : Nat → ClassId) (base : Nat) (h : pm_H) (s : State) (H : Heap) : Prop :=
  va_P D pm_cl (pm_pw base cA h) H ∧ H.size = rz h ∧ base ≤ rz h ∧ (∀ a, (rK h a).1 ≠ 0 → (rK h a).1 ≠ 3 → base ≤ a ∧ a < rz h) ∧ ∀ a, (rK h a).1 = 3 → a < base ∧ va_X a (rK h a).2 (rI h a) s H
theorem pm_Wd.moved {D : va_G} {cA : Nat → ClassId} {base : Nat} {h : pm_H} {u U : State} {H : Heap} (hvm : u.vm.Alike U.vm) (hw : pm_Wd D cA base h u H) : pm_Wd D cA base h U H := by
  obtain ⟨h1, h2, h3, h4, h5⟩ := hw
  exact ⟨h1, h2, h3, h4, fun a ha => ⟨(h5 a ha).1, (h5 a ha).2.moved hvm⟩⟩
/-- the locals: as listed -/
def pm_lv (ls : Array Slot) (n : Nat) (L : pm_L) : Prop := ls.size = n ∧ lv_wf ls ∧ L.length = n ∧ ∀ (i : Nat) (v : Value), L[i]? = some (some v) → ls[i]? = some (.val v)
def pm_al (L : pm_L) : List (Nat × Value) := (List.range L.length).filterMap (fun i => match L[i]? with | some (some v) => some (i, v) | _ => none)
theorem pm_al_mem {L : pm_L} {q : Nat × Value} : q ∈ pm_al L ↔ L[q.1]? = some (some q.2) := by
  unfold pm_al
  rw [List.mem_filterMap]
  constructor
  · rintro ⟨i, -, hi⟩
    split at hi
    · rename_i v hv
      cases hi
      exact hv
    · cases hi
  · intro hq
    have hl : q.1 < L.length := (List.getElem?_eq_some_iff.mp hq).1
    exact ⟨q.1, List.mem_range.mpr hl, by rw [hq]⟩
theorem pm_lv.has {ls : Array Slot} {n : Nat} {L : pm_L} (h : pm_lv ls n L) : lv_has ls n (pm_al L) := ⟨h.1, h.2.1, fun q hq => h.2.2.2 q.1 q.2 (pm_al_mem.mp hq)⟩
theorem pm_getD {L : pm_L} {k : Nat} {v : Value} (h : L.getD k none = some v) : L[k]? = some (some v) := by
  rw [List.getD_eq_getElem?_getD] at h
  cases hk : L[k]? with
  | none => rw [hk] at h; cases h
  | some w => rw [hk] at h; simp at h; rw [h]
theorem pm_lv.at {ls : Array Slot} {n : Nat} {L : pm_L} (h : pm_lv ls n L) {k : Nat} {v : Value} (hk : L.getD k none = some v) : ls[k]? = some (.val v) := h.2.2.2 k v (pm_getD hk)
theorem pm_lg_no {L : pm_L} {i : Nat} (h : pm_lg L i = false) {j : Nat} {v : Value} (hj : j + 1 = i) (hv : L[j]? = some (some v)) : ¬ v.category = 2 := by
  subst hj
  simp only [pm_lg, List.getD_eq_getElem?_getD, hv, Option.getD_some] at h
  simpa using h
theorem pm_put_lv {n : Nat} {L L' : pm_L} {i : Nat} {v : Value} (hp : pm_put L i v = some L') (hL : L.length = n) {ls' : Array Slot} (h : lv_has ls' n ((i, v) :: (pm_al L).filter (fun q => !(q.1 == i) && !(q.1 + 1 == i && q.2.category == 2)))) : pm_lv ls' n L' := by
  unfold pm_put at hp
  split at hp
  · rename_i hc
    obtain ⟨hi, hg⟩ := hc
    cases hp
    refine ⟨h.1, h.2.1, by rw [List.length_set]; exact hL, fun j w hj => ?_⟩
    by_cases hji : j = i
    · subst hji
      rw [List.getElem?_set_self hi] at hj
      cases hj
      exact h.2.2 (j, v) List.mem_cons_self
    · rw [List.getElem?_set_ne (Ne.symm hji)] at hj
      refine h.2.2 (j, w) (List.mem_cons_of_mem _ (List.mem_filter.mpr ⟨pm_al_mem.mpr hj, ?_⟩))
      have h2 : ¬ (j + 1 = i ∧ w.category = 2) := fun q => pm_lg_no hg q.1 hj q.2
      simp only [Bool.and_eq_true, Bool.not_eq_true', beq_eq_false_iff_ne, ne_eq, Bool.and_eq_false_iff]
      refine ⟨hji, ?_⟩
      by_cases q1 : j + 1 = i
      · exact Or.inr (fun q2 => h2 ⟨q1, q2⟩)
      · exact Or.inl q1
  · cases hp
theorem pm_put2_lv {n : Nat} {L L' : pm_L} {i : Nat} {v : Value} (hp : pm_put2 L i v = some L') (hL : L.length = n) {ls' : Array Slot} (h : lv_has ls' n ((i, v) :: (pm_al L).filter (fun q => !(q.1 == i) && (!(q.1 == i + 1) && !(q.1 + 1 == i && q.2.category == 2))))) : pm_lv ls' n L' := by
  unfold pm_put2 at hp
  split at hp
  · rename_i hc
    obtain ⟨hi, hg⟩ := hc
    cases hp
    refine ⟨h.1, h.2.1, by rw [List.length_set, List.length_set]; exact hL, fun j w hj => ?_⟩
    by_cases hj1 : j = i + 1
    · subst hj1
      rw [List.getElem?_set_self (by rw [List.length_set]; exact hi)] at hj
      cases hj
    · rw [List.getElem?_set_ne (Ne.symm hj1)] at hj
      by_cases hji : j = i
      · subst hji
        rw [List.getElem?_set_self (by omega)] at hj
        cases hj
        exact h.2.2 (j, v) List.mem_cons_self
      · rw [List.getElem?_set_ne (Ne.symm hji)] at hj
        refine h.2.2 (j, w) (List.mem_cons_of_mem _ (List.mem_filter.mpr ⟨pm_al_mem.mpr hj, ?_⟩))
        have h2 : ¬ (j + 1 = i ∧ w.category = 2) := fun q => pm_lg_no hg q.1 hj q.2
        simp only [Bool.and_eq_true, Bool.not_eq_true', beq_eq_false_iff_ne, ne_eq, Bool.and_eq_false_iff]
        refine ⟨hji, hj1, ?_⟩
        by_cases q1 : j + 1 = i
        · exact Or.inr (fun q2 => h2 ⟨q1, q2⟩)
        · exact Or.inl q1
  · cases hp
theorem pm_put_lt {L L' : pm_L} {i : Nat} {v : Value} (hp : pm_put L i v = some L') : i < L.length := by
  unfold pm_put at hp
  split at hp
  · rename_i hc; exact hc.1
  · cases hp
theorem pm_put2_lt {L L' : pm_L} {i : Nat} {v : Value} (hp : pm_put2 L i v = some L') : i + 1 < L.length := by
  unfold pm_put2 at hp
  split at hp
  · rename_i hc; exact hc.1
  · cases hp
/-- the locals at a method's entry -/
theorem pm_ent_len (vs : List Value) : (pm_ent vs).length = (lg_sl vs).length := by
  induction vs with
  | nil => rfl
  | cons v vs ih =>
    simp only [pm_ent, lg_sl, List.flatMap_cons, List.length_append] at ih ⊢
    rw [ih]
    split <;> rfl
theorem pm_ent_args (vs : List Value) : ∀ (b i : Nat) (v : Value), (pm_ent vs)[i]? = some (some v) → (b + i, v) ∈ lv_args b vs := by
  induction vs with
  | nil => intro b i v h; simp [pm_ent] at h
  | cons w vs ih =>
    intro b i v h
    have e : pm_ent (w :: vs) = (if w.category = 2 then [some w, none] else [some w]) ++ pm_ent vs := by simp [pm_ent, List.flatMap_cons]
    rw [e] at h
    rw [lv_args]
    by_cases hw : w.category = 2
    · rw [if_pos hw] at h
      match i, h with
      | 0, h => simp at h; subst h; exact List.mem_cons_self
      | 1, h => simp at h
      | i + 2, h =>
        have h3 : (pm_ent vs)[i]? = some (some v) := by simpa using h
        have := ih (b + 2) i v h3
        rw [show b + (i + 2) = b + 2 + i by omega]
        simp only [hw] at this ⊢
        exact List.mem_cons_of_mem _ this
    · rw [if_neg hw] at h
      have hw1 : w.category = 1 := by rcases lv_cat w with q | q <;> omega
      match i, h with
      | 0, h => simp at h; subst h; exact List.mem_cons_self
      | i + 1, h =>
        have h3 : (pm_ent vs)[i]? = some (some v) := by simpa using h
        have := ih (b + 1) i v h3
        rw [show b + (i + 1) = b + 1 + i by omega]
        simp only [hw1] at this ⊢
        exact List.mem_cons_of_mem _ this
theorem pm_lv_entry {z : Nat} {vs : List Value} (hl : (pm_ent vs).length ≤ pm_mx z) : pm_lv ((lg_sl vs ++ List.replicate (pm_mx z - (lg_sl vs).length) Slot.unset).toArray) (pm_mx z) (pm_entry z vs) := by
  have h := lv_entry vs (n := pm_mx z) (by rw [← pm_ent_len]; exact hl)
  refine ⟨h.1, h.2.1, ?_, fun i v hi => ?_⟩
  · simp only [pm_entry, List.length_append, List.length_replicate]
    omega
  · unfold pm_entry at hi
    by_cases hi2 : i < (pm_ent vs).length
    · rw [List.getElem?_append_left hi2] at hi
      have := pm_ent_args vs 0 i v hi
      rw [Nat.zero_add] at this
      exact h.2.2 (i, v) this
    · rw [List.getElem?_append_right (by omega)] at hi
      have h1 := List.mem_of_getElem? hi
      have h2 := List.eq_of_mem_replicate h1
      cases h2
