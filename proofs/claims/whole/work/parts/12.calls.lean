/-! CALLS, ENDS, AND WHOLE RUNS -/
def pm_Pc (D : va_G) (cA : Nat → ClassId) (base : Nat) (h : pm_H) (as : List Value) : Array Value → State → Prop := fun v U => v = as.toArray ∧ pm_Wd D cA base h U U.heap ∧ va_K D pm_cl (pm_tys cA) U ∧ pm_NW U
def pm_Qc (D : va_G) (cA : Nat → ClassId) (base : Nat) (r : Option Value × pm_H) : Array Value → State → Outcome → State → Prop := fun _ st o t => o = .returned r.1 ∧ pm_Wd D cA base r.2 t t.heap ∧ st.heap.size ≤ t.heap.size ∧ ∀ q, q < st.heap.size → q < base → t.heap[q]? = st.heap[q]?
theorem pm_NW.warm {s U : State} (hW : s.WarmedH U.vm) (h : pm_NW s) : pm_NW U := by
  refine ⟨fun w hw => ?_, fun j hj => (h.2 j hj).moved hW.alike⟩
  have h1 := h.1 w hw
  obtain ⟨e, -, rfl⟩ := List.mem_map.mp hw
  exact va_Nw.warmM hW h1
theorem pm_NW.same {u U : State} (hv : u.vm = U.vm) (h : pm_NW u) : pm_NW U := by
  refine ⟨fun w hw => ?_, fun j hj => (h.2 j hj).moved (by rw [hv]; exact Vm.Alike.refl _)⟩
  have h1 := h.1 w hw
  obtain ⟨e, -, rfl⟩ := List.mem_map.mp hw
  exact va_Nw.same rfl hv h1
theorem pm_blind {D : va_G} {cA : Nat → ClassId} {base : Nat} {h : pm_H} {as : List Value} : FrameBlind (pm_Pc D cA base h as) := by
  intro a U g mk hp
  obtain ⟨h1, h2, h3, h4⟩ := hp
  exact ⟨h1, h2.moved (U := U.calling g mk a) (Vm.Alike.refl U.vm), va_K.moved (u := U) (U := U.calling g mk a) (Vm.Alike.refl U.vm) h3, pm_NW.same (u := U) (U := U.calling g mk a) rfl h4⟩
def pm_RI (y : Nat) (i : Instr) (n : Nat) (st : List Value) (h : pm_H) (r : Option Value × pm_H) : Prop := r.2 = h ∧ n = 1 ∧ ((i = .ireturn ∧ ∃ v, st = [.int v] ∧ r.1 = some (.int v) ∧ (pm_rt y = some .int ∨ (pm_rt y = some .boolean ∧ (v = 0 ∨ v = 1)))) ∨ (i = .lreturn ∧ ∃ v, st = [.long v] ∧ r.1 = some (.long v) ∧ pm_rt y = some .long) ∨ (i = .areturn ∧ ∃ a q, st = [.ref a] ∧ r.1 = some (.ref a) ∧ pm_rt y = some (.object q)) ∨ (i = .return_ ∧ st = [] ∧ r.1 = none ∧ pm_rt y = none))
def pm_CI (y : Nat) (i : Instr) (n : Nat) (st : List Value) (h : pm_H) (z : Nat) (as rest : List Value) : Prop := n = 3 ∧ (z < 185 ∧ pm_fr z + 1 ≤ pm_fr y ∧ 19 + pm_mx z + pm_lc z ≤ pm_lc y ∧ rest.length ≤ 4 ∧ (pm_ent as).length ≤ pm_mx z) ∧ ∃ ix b, pm_lk (pm_oc y) ix = some (z, b) ∧
  ((i = .invokevirtual ix ∧ b = false ∧ pm_kd z = 1 ∧ ∃ a As, as = .ref a :: As ∧ As.length = pm_na z ∧ st = As.reverse ++ .ref a :: rest ∧ rK h a = (1, pm_oc z)) ∨
   (i = .invokestatic ix ∧ pm_kd z = 0 ∧ as.length = pm_na z ∧ st = as.reverse ++ rest) ∨
   (i = .invokespecial ix ∧ pm_kd z = 2 ∧ ∃ a As, as = .ref a :: As ∧ As.length = pm_na z ∧ st = As.reverse ++ .ref a :: rest))
theorem pm_callee_i {y z : Nat} {as rest : List Value} {v} (hs : pm_callee y z as rest = some v) : v = .inr (.inr (z, as, rest)) ∧ (z < 185 ∧ pm_fr z + 1 ≤ pm_fr y ∧ 19 + pm_mx z + pm_lc z ≤ pm_lc y ∧ rest.length ≤ 4 ∧ (pm_ent as).length ≤ pm_mx z) := by
  unfold pm_callee at hs
  split at hs
  · rename_i hc; cases hs; exact ⟨rfl, hc⟩
  · cases hs
theorem pm_kind {y : Nat} {i : Instr} {n pc : Nat} {L : pm_L} {st : List Value} {h : pm_H} {v} (hs : pm_stp y i n pc L st h = some v) : (∃ x, v = .inl x) ∨ (∃ r, v = .inr (.inl r) ∧ pm_RI y i n st h r) ∨ (∃ z as rest, v = .inr (.inr (z, as, rest)) ∧ pm_CI y i n st h z as rest) := by
  cases i with
  | iconst k =>
    simp only [pm_stp] at hs
    split at hs
    · cases hs; exact Or.inl ⟨_, rfl⟩
    · cases hs
  | bipush k =>
    simp only [pm_stp] at hs
    split at hs
    · cases hs; exact Or.inl ⟨_, rfl⟩
    · cases hs
  | sipush k =>
    simp only [pm_stp] at hs
    split at hs
    · cases hs; exact Or.inl ⟨_, rfl⟩
    · cases hs
  | lconst k =>
    simp only [pm_stp] at hs
    split at hs
    · cases hs; exact Or.inl ⟨_, rfl⟩
    · cases hs
  | ldc ix =>
    simp only [pm_stp] at hs
    split at hs
    · split at hs
      · cases hs; exact Or.inl ⟨_, rfl⟩
      · cases hs
    · cases hs
  | ldc2_w ix =>
    simp only [pm_stp] at hs
    split at hs
    · split at hs
      · cases hs; exact Or.inl ⟨_, rfl⟩
      · cases hs
    · cases hs
  | iload_n k =>
    obtain ⟨x, rfl, hl, hv⟩ := ps_ldi hs
    exact Or.inl ⟨_, hv⟩
  | iload k =>
    obtain ⟨x, rfl, hl, hv⟩ := ps_ldi hs
    exact Or.inl ⟨_, hv⟩
  | aload_n k =>
    obtain ⟨x, rfl, hl, hw, hv⟩ := ps_lda hs
    exact Or.inl ⟨_, hv⟩
  | aload k =>
    obtain ⟨x, rfl, hl, hw, hv⟩ := ps_lda hs
    exact Or.inl ⟨_, hv⟩
  | lload_n k =>
    obtain ⟨x, rfl, hl, hv⟩ := ps_ldl hs
    exact Or.inl ⟨_, hv⟩
  | istore_n k =>
    obtain ⟨x, r, L1, rfl, rfl, hp, hv⟩ := ps_sti hs
    exact Or.inl ⟨_, hv⟩
  | istore k =>
    obtain ⟨x, r, L1, rfl, rfl, hp, hv⟩ := ps_sti hs
    exact Or.inl ⟨_, hv⟩
  | lstore_n k =>
    obtain ⟨x, r, L1, rfl, rfl, hp, hv⟩ := ps_stl hs
    exact Or.inl ⟨_, hv⟩
  | astore_n k =>
    obtain ⟨w, r, L1, rfl, rfl, hw, hp, hv⟩ := ps_sta hs
    exact Or.inl ⟨_, hv⟩
  | astore k =>
    obtain ⟨w, r, L1, rfl, rfl, hw, hp, hv⟩ := ps_sta hs
    exact Or.inl ⟨_, hv⟩
  | iinc k c1 =>
    simp only [pm_stp] at hs
    split at hs
    · split at hs
      · rename_i x hx
        cases hp : pm_put L k (.int (x + Int32.ofInt c1)) with
        | none => rw [hp] at hs; cases hs
        | some L1 => rw [hp] at hs; cases hs; exact Or.inl ⟨_, rfl⟩
      · cases hs
    · cases hs
  | iadd =>
    obtain ⟨x, w, r, rfl, rfl, hv⟩ := ps_bin hs
    exact Or.inl ⟨_, hv⟩
  | isub =>
    obtain ⟨x, w, r, rfl, rfl, hv⟩ := ps_bin hs
    exact Or.inl ⟨_, hv⟩
  | imul =>
    obtain ⟨x, w, r, rfl, rfl, hv⟩ := ps_bin hs
    exact Or.inl ⟨_, hv⟩
  | iand =>
    obtain ⟨x, w, r, rfl, rfl, hv⟩ := ps_bin hs
    exact Or.inl ⟨_, hv⟩
  | ixor =>
    obtain ⟨x, w, r, rfl, rfl, hv⟩ := ps_bin hs
    exact Or.inl ⟨_, hv⟩
  | idiv =>
    obtain ⟨x, w, r, rfl, h0, rfl, hv⟩ := ps_dv hs
    exact Or.inl ⟨_, hv⟩
  | irem =>
    obtain ⟨x, w, r, rfl, h0, rfl, hv⟩ := ps_dv hs
    exact Or.inl ⟨_, hv⟩
  | ladd =>
    obtain ⟨x, w, r, rfl, rfl, hv⟩ := ps_binL hs
    exact Or.inl ⟨_, hv⟩
  | lsub =>
    obtain ⟨x, w, r, rfl, rfl, hv⟩ := ps_binL hs
    exact Or.inl ⟨_, hv⟩
  | lmul =>
    obtain ⟨x, w, r, rfl, rfl, hv⟩ := ps_binL hs
    exact Or.inl ⟨_, hv⟩
  | land =>
    obtain ⟨x, w, r, rfl, rfl, hv⟩ := ps_binL hs
    exact Or.inl ⟨_, hv⟩
  | lor =>
    obtain ⟨x, w, r, rfl, rfl, hv⟩ := ps_binL hs
    exact Or.inl ⟨_, hv⟩
  | lxor =>
    obtain ⟨x, w, r, rfl, rfl, hv⟩ := ps_binL hs
    exact Or.inl ⟨_, hv⟩
  | lshl =>
    obtain ⟨x, w, r, rfl, rfl, hv⟩ := ps_shL hs
    exact Or.inl ⟨_, hv⟩
  | lshr =>
    obtain ⟨x, w, r, rfl, rfl, hv⟩ := ps_shL hs
    exact Or.inl ⟨_, hv⟩
  | lushr =>
    obtain ⟨x, w, r, rfl, rfl, hv⟩ := ps_shL hs
    exact Or.inl ⟨_, hv⟩
  | i2l =>
    simp only [pm_stp] at hs
    split at hs
    · cases hs; exact Or.inl ⟨_, rfl⟩
    · cases hs
  | l2i =>
    simp only [pm_stp] at hs
    split at hs
    · cases hs; exact Or.inl ⟨_, rfl⟩
    · cases hs
  | lcmp =>
    simp only [pm_stp] at hs
    split at hs
    · cases hs; exact Or.inl ⟨_, rfl⟩
    · cases hs
  | dup =>
    simp only [pm_stp] at hs
    split at hs
    · split at hs
      · cases hs; exact Or.inl ⟨_, rfl⟩
      · cases hs
    · cases hs
  | dup2 =>
    simp only [pm_stp] at hs
    split at hs
    · split at hs
      · cases hs; exact Or.inl ⟨_, rfl⟩
      · cases hs
    · cases hs
  | pop =>
    simp only [pm_stp] at hs
    split at hs
    · split at hs
      · cases hs; exact Or.inl ⟨_, rfl⟩
      · cases hs
    · cases hs
  | arraylength =>
    simp only [pm_stp] at hs
    split at hs
    · split at hs
      · cases hs; exact Or.inl ⟨_, rfl⟩
      · cases hs
    · cases hs
  | iaload =>
    simp only [pm_stp] at hs
    split at hs
    · split at hs
      · cases hs; exact Or.inl ⟨_, rfl⟩
      · cases hs
    · cases hs
  | iastore =>
    simp only [pm_stp] at hs
    split at hs
    · split at hs
      · cases hs; exact Or.inl ⟨_, rfl⟩
      · cases hs
    · cases hs
  | aaload =>
    simp only [pm_stp] at hs
    split at hs
    · split at hs
      · cases hs; exact Or.inl ⟨_, rfl⟩
      · cases hs
    · cases hs
  | aastore =>
    simp only [pm_stp] at hs
    split at hs
    · split at hs
      · cases hs; exact Or.inl ⟨_, rfl⟩
      · cases hs
    · cases hs
  | goto off =>
    simp only [pm_stp] at hs
    split at hs
    · obtain ⟨t, ht, hv⟩ := ps_jmp hs; exact Or.inl ⟨_, hv⟩
    · cases hs
  | ifCond cnd off =>
    simp only [pm_stp] at hs
    split at hs
    · obtain ⟨t, ht, ⟨hc, hv⟩ | ⟨hc, hv⟩⟩ := ps_br hs <;> exact Or.inl ⟨_, hv⟩
    · cases hs
  | if_icmp cnd off =>
    simp only [pm_stp] at hs
    split at hs
    · obtain ⟨t, ht, ⟨hc, hv⟩ | ⟨hc, hv⟩⟩ := ps_br hs <;> exact Or.inl ⟨_, hv⟩
    · cases hs
  | if_acmp cnd off =>
    cases cnd with
    | eq => cases hs
    | ne =>
      simp only [pm_stp] at hs
      split at hs
      · obtain ⟨t, ht, ⟨hc, hv⟩ | ⟨hc, hv⟩⟩ := ps_br hs <;> exact Or.inl ⟨_, hv⟩
      · cases hs
  | ifnonnull off =>
    simp only [pm_stp] at hs
    split at hs
    · obtain ⟨t, ht, hv⟩ := ps_jmp hs; exact Or.inl ⟨_, hv⟩
    · cases hs; exact Or.inl ⟨_, rfl⟩
    · cases hs
  | tableswitch d lo hi offs =>
    simp only [pm_stp] at hs
    split at hs
    · split at hs
      · obtain ⟨t, ht, hv⟩ := ps_jmp hs; exact Or.inl ⟨_, hv⟩
      · cases hs
    · cases hs
  | getfield ix =>
    simp only [pm_stp, pm_getf] at hs
    split at hs
    · split at hs
      · cases hs; exact Or.inl ⟨_, rfl⟩
      · cases hs
    · cases hs
  | putfield ix =>
    simp only [pm_stp, pm_putf] at hs
    split at hs
    · rename_i w a r ci k hf
      split at hs
      · cases hst : pm_stv h a (pm_fkk ci k) k w with
        | none => rw [hst] at hs; cases hs
        | some h' => rw [hst] at hs; cases hs; exact Or.inl ⟨_, rfl⟩
      · cases hs
    · cases hs
  | new ix =>
    simp only [pm_stp, pm_newo] at hs
    split at hs
    · split at hs
      · cases hs; exact Or.inl ⟨_, rfl⟩
      · cases hs
    · cases hs
  | newarray aty =>
    cases aty with
    | int =>
      simp only [pm_stp, pm_newi] at hs
      split at hs
      · split at hs
        · cases hs; exact Or.inl ⟨_, rfl⟩
        · cases hs
      · cases hs
    | _ => cases hs
  | anewarray ix =>
    simp only [pm_stp, pm_newr] at hs
    split at hs
    · split at hs
      · cases hs; exact Or.inl ⟨_, rfl⟩
      · cases hs
    · cases hs
  | ireturn =>
    simp only [pm_stp] at hs
    split at hs
    · split at hs
      · rename_i hc; cases hs; exact Or.inr (Or.inl ⟨_, rfl, rfl, rfl, Or.inl ⟨rfl, _, rfl, rfl, hc⟩⟩)
      · cases hs
    · cases hs
  | lreturn =>
    simp only [pm_stp] at hs
    split at hs
    · split at hs
      · rename_i hc; cases hs; exact Or.inr (Or.inl ⟨_, rfl, rfl, rfl, Or.inr (Or.inl ⟨rfl, _, rfl, rfl, hc⟩)⟩)
      · cases hs
    · cases hs
  | areturn =>
    simp only [pm_stp] at hs
    split at hs
    · split at hs
      · rename_i q hc; cases hs; exact Or.inr (Or.inl ⟨_, rfl, rfl, rfl, Or.inr (Or.inr (Or.inl ⟨rfl, _, q, rfl, rfl, hc⟩))⟩)
      · cases hs
    · cases hs
  | return_ =>
    simp only [pm_stp] at hs
    split at hs
    · split at hs
      · rename_i hc; cases hs; exact Or.inr (Or.inl ⟨_, rfl, rfl, rfl, Or.inr (Or.inr (Or.inr ⟨rfl, rfl, rfl, hc⟩))⟩)
      · cases hs
    · cases hs
  | invokevirtual ix =>
    simp only [pm_stp, pm_virt] at hs
    split at hs
    · rename_i z b hlk
      split at hs
      · rename_i hkd
        split at hs
        · rename_i a rest hdr
          split at hs
          · rename_i hc
            obtain ⟨c1, c2, c3⟩ := hc
            obtain ⟨hv, hci⟩ := pm_callee_i hs
            refine Or.inr (Or.inr ⟨_, _, _, hv, rfl, hci, ix, b, hlk, Or.inl ⟨rfl, c3, hkd, a, _, rfl, by rw [List.length_reverse]; exact c1, ?_, c2⟩⟩)
            rw [List.reverse_reverse, ← hdr, List.take_append_drop]
          · cases hs
        · cases hs
      · cases hs
    · cases hs
  | invokestatic ix =>
    simp only [pm_stp, pm_stat] at hs
    split at hs
    · rename_i hn
      split at hs
      · split at hs
        · split at hs
          · cases hs; exact Or.inl ⟨_, rfl⟩
          · cases hs
        · cases hs
      · split at hs
        · rename_i z b hlk
          split at hs
          · rename_i hc
            obtain ⟨hv, hci⟩ := pm_callee_i hs
            refine Or.inr (Or.inr ⟨_, _, _, hv, hn, hci, ix, b, hlk, Or.inr (Or.inl ⟨rfl, hc.1, by rw [List.length_reverse]; exact hc.2, ?_⟩)⟩)
            rw [List.reverse_reverse, List.take_append_drop]
          · cases hs
        · cases hs
    · cases hs
  | invokespecial ix =>
    simp only [pm_stp, pm_spec] at hs
    split at hs
    · rename_i hn
      split at hs
      · split at hs
        · split at hs
          · cases hs; exact Or.inl ⟨_, rfl⟩
          · cases hs
        · cases hs
      · split at hs
        · rename_i z b hlk
          split at hs
          · rename_i hkd
            split at hs
            · rename_i a rest hdr
              split at hs
              · rename_i hc
                obtain ⟨hv, hci⟩ := pm_callee_i hs
                refine Or.inr (Or.inr ⟨_, _, _, hv, hn, hci, ix, b, hlk, Or.inr (Or.inr ⟨rfl, hkd, a, _, rfl, by rw [List.length_reverse]; exact hc, ?_⟩)⟩)
                rw [List.reverse_reverse, ← hdr, List.take_append_drop]
              · cases hs
            · cases hs
          · cases hs
        · cases hs
    · cases hs
  | _ => cases hs
