/-! ALL STEPS -/
section PMO
variable {p : Program} {l : Launch} {e : Env} {R : Room} {s : State} {m : MethodId} {args : Array Value} {below : List Frame} {meth : Method} {c : Code} {Q : State → Prop}
variable {D : va_G} {cA : Nat → ClassId} {base y z0 s0 : Nat} {pc n pc' : Nat} {L L' : pm_L} {st st' : List Value} {h h' : pm_H}
set_option maxHeartbeats 4000000 in
theorem pm_step {i : Instr} (hd : decode (pm_mb y) pc = .ok (i, n)) (hs : pm_stp y i n pc L st h = some (.inl (pc', L', st', h'))) : pm_Ok D cA base y z0 s0 p l e R s m args below meth c Q pc L st h pc' L' st' h' := by
  cases i with
  | iconst k =>
    simp only [pm_stp] at hs
    split at hs
    · rename_i hn; subst hn; cases hs; exact pm_ok_of (fun CX kk H locs cells slots ls F => lv_iconst CX.1 CX.2.1 hd rfl (kk _ _ _ _ _ F))
    · cases hs
  | bipush k =>
    simp only [pm_stp] at hs
    split at hs
    · rename_i hn; subst hn; cases hs; exact pm_ok_of (fun CX kk H locs cells slots ls F => lv_bipush CX.1 CX.2.1 hd rfl (kk _ _ _ _ _ F))
    · cases hs
  | sipush k =>
    simp only [pm_stp] at hs
    split at hs
    · rename_i hn; subst hn; cases hs; exact pm_ok_of (fun CX kk H locs cells slots ls F => lv_sipush CX.1 CX.2.1 hd rfl (kk _ _ _ _ _ F))
    · cases hs
  | lconst k =>
    simp only [pm_stp] at hs
    split at hs
    · rename_i hn; subst hn; cases hs; exact pm_ok_of (fun CX kk H locs cells slots ls F => lv_lconst CX.1 CX.2.1 hd rfl (kk _ _ _ _ _ F))
    · cases hs
  | ldc ix =>
    simp only [pm_stp] at hs
    split at hs
    · rename_i hn
      subst hn
      split at hs
      · rename_i v hv
        cases hs
        exact pm_ok_of (fun CX kk H locs cells slots ls F => lv_ldc CX.1 CX.2.1 CX.2.2.2.2.1 (CX.2.2.2.2.2.1 _ (pm_ki_ok hv)) hd (kk _ _ _ _ _ F))
      · cases hs
    · cases hs
  | ldc2_w ix =>
    simp only [pm_stp] at hs
    split at hs
    · rename_i hn
      subst hn
      split at hs
      · rename_i v hv
        cases hs
        exact pm_ok_of (fun CX kk H locs cells slots ls F => lv_ldc2 CX.1 CX.2.1 CX.2.2.2.2.1 (CX.2.2.2.2.2.1 _ (pm_kj_ok hv)) hd (kk _ _ _ _ _ F))
      · cases hs
    · cases hs
  | iload_n k =>
    obtain ⟨x, rfl, hl, hv⟩ := ps_ldi hs
    cases hv
    exact pm_ok_of (fun CX kk H locs cells slots ls F => lv_iload_n CX.1 CX.2.1 hd rfl (F.2.2.2.2.2.2.at hl) (kk _ _ _ _ _ F))
  | iload k =>
    obtain ⟨x, rfl, hl, hv⟩ := ps_ldi hs
    cases hv
    exact pm_ok_of (fun CX kk H locs cells slots ls F => lv_iload CX.1 CX.2.1 hd (F.2.2.2.2.2.2.at hl) (kk _ _ _ _ _ F))
  | aload_n k =>
    obtain ⟨w, rfl, hl, hw, hv⟩ := ps_lda hs
    cases hv
    rcases hw with rfl | ⟨x, rfl⟩
    · exact pm_ok_of (fun CX kk H locs cells slots ls F => lv_aload_nN CX.1 CX.2.1 hd rfl (F.2.2.2.2.2.2.at hl) (kk _ _ _ _ _ F))
    · exact pm_ok_of (fun CX kk H locs cells slots ls F => lv_aload_n CX.1 CX.2.1 hd rfl (F.2.2.2.2.2.2.at hl) (kk _ _ _ _ _ F))
  | aload k =>
    obtain ⟨w, rfl, hl, hw, hv⟩ := ps_lda hs
    cases hv
    rcases hw with rfl | ⟨x, rfl⟩
    · exact pm_ok_of (fun CX kk H locs cells slots ls F => lv_aloadN CX.1 CX.2.1 hd (F.2.2.2.2.2.2.at hl) (kk _ _ _ _ _ F))
    · exact pm_ok_of (fun CX kk H locs cells slots ls F => lv_aload CX.1 CX.2.1 hd (F.2.2.2.2.2.2.at hl) (kk _ _ _ _ _ F))
  | lload_n k =>
    obtain ⟨x, rfl, hl, hv⟩ := ps_ldl hs
    cases hv
    exact pm_ok_of (fun CX kk H locs cells slots ls F => lv_lload_n CX.1 CX.2.1 hd rfl (F.2.2.2.2.2.2.at hl) (kk _ _ _ _ _ F))
  | istore_n k =>
    obtain ⟨x, r, L1, rfl, rfl, hp, hv⟩ := ps_sti hs
    cases hv
    exact pm_ok_of (fun CX kk H locs cells slots ls F => lv_istore_n CX.1 CX.2.1 hd rfl F.2.2.2.2.2.2.has (by rw [← F.2.2.2.2.2.2.2.2.1]; exact pm_put_lt hp) rfl (fun ls' hl' => kk _ _ _ _ _ (F.loc (pm_put_lv hp F.2.2.2.2.2.2.2.2.1 hl'))))
  | istore k =>
    obtain ⟨x, r, L1, rfl, rfl, hp, hv⟩ := ps_sti hs
    cases hv
    exact pm_ok_of (fun CX kk H locs cells slots ls F => lv_istore CX.1 CX.2.1 hd F.2.2.2.2.2.2.has (by rw [← F.2.2.2.2.2.2.2.2.1]; exact pm_put_lt hp) rfl (fun ls' hl' => kk _ _ _ _ _ (F.loc (pm_put_lv hp F.2.2.2.2.2.2.2.2.1 hl'))))
  | astore_n k =>
    obtain ⟨w, r, L1, rfl, rfl, hw, hp, hv⟩ := ps_sta hs
    cases hv
    rcases hw with rfl | ⟨x, rfl⟩
    · exact pm_ok_of (fun CX kk H locs cells slots ls F => lv_astore_nN CX.1 CX.2.1 hd rfl F.2.2.2.2.2.2.has (by rw [← F.2.2.2.2.2.2.2.2.1]; exact pm_put_lt hp) rfl (fun ls' hl' => kk _ _ _ _ _ (F.loc (pm_put_lv hp F.2.2.2.2.2.2.2.2.1 hl'))))
    · exact pm_ok_of (fun CX kk H locs cells slots ls F => lv_astore_n CX.1 CX.2.1 hd rfl F.2.2.2.2.2.2.has (by rw [← F.2.2.2.2.2.2.2.2.1]; exact pm_put_lt hp) rfl (fun ls' hl' => kk _ _ _ _ _ (F.loc (pm_put_lv hp F.2.2.2.2.2.2.2.2.1 hl'))))
  | astore k =>
    obtain ⟨w, r, L1, rfl, rfl, hw, hp, hv⟩ := ps_sta hs
    cases hv
    rcases hw with rfl | ⟨x, rfl⟩
    · exact pm_ok_of (fun CX kk H locs cells slots ls F => lv_astoreN CX.1 CX.2.1 hd F.2.2.2.2.2.2.has (by rw [← F.2.2.2.2.2.2.2.2.1]; exact pm_put_lt hp) rfl (fun ls' hl' => kk _ _ _ _ _ (F.loc (pm_put_lv hp F.2.2.2.2.2.2.2.2.1 hl'))))
    · exact pm_ok_of (fun CX kk H locs cells slots ls F => lv_astore CX.1 CX.2.1 hd F.2.2.2.2.2.2.has (by rw [← F.2.2.2.2.2.2.2.2.1]; exact pm_put_lt hp) rfl (fun ls' hl' => kk _ _ _ _ _ (F.loc (pm_put_lv hp F.2.2.2.2.2.2.2.2.1 hl'))))
  | lstore_n k =>
    obtain ⟨x, r, L1, rfl, rfl, hp, hv⟩ := ps_stl hs
    cases hv
    exact pm_ok_of (fun CX kk H locs cells slots ls F => lv_lstore_n CX.1 CX.2.1 hd rfl F.2.2.2.2.2.2.has (by rw [← F.2.2.2.2.2.2.2.2.1]; exact pm_put2_lt hp) rfl (fun ls' hl' => kk _ _ _ _ _ (F.loc (pm_put2_lv hp F.2.2.2.2.2.2.2.2.1 hl'))))
  | iinc k c1 =>
    simp only [pm_stp] at hs
    split at hs
    · rename_i hn
      subst hn
      split at hs
      · rename_i x hx
        cases hp : pm_put L k (.int (x + Int32.ofInt c1)) with
        | none => rw [hp] at hs; cases hs
        | some L1 =>
          rw [hp] at hs
          cases hs
          obtain ⟨j, hj⟩ := List.getElem?_of_mem (pm_al_mem (q := (k, .int x)).mpr (pm_getD hx))
          exact pm_ok_of (fun CX kk H locs cells slots ls F => lv_iinc CX.1 CX.2.1 hd F.2.2.2.2.2.2.has hj rfl (by rw [← F.2.2.2.2.2.2.2.2.1]; exact pm_put_lt hp) rfl (fun ls' hl' => kk _ _ _ _ _ (F.loc (pm_put_lv hp F.2.2.2.2.2.2.2.2.1 hl'))))
      · cases hs
    · cases hs
  | iadd =>
    obtain ⟨x, w, r, rfl, rfl, hv⟩ := ps_bin hs
    cases hv
    exact pm_ok_of (fun CX kk H locs cells slots ls F => lv_iadd CX.1 CX.2.1 hd (kk _ _ _ _ _ F))
  | isub =>
    obtain ⟨x, w, r, rfl, rfl, hv⟩ := ps_bin hs
    cases hv
    exact pm_ok_of (fun CX kk H locs cells slots ls F => lv_isub CX.1 CX.2.1 hd (kk _ _ _ _ _ F))
  | imul =>
    obtain ⟨x, w, r, rfl, rfl, hv⟩ := ps_bin hs
    cases hv
    exact pm_ok_of (fun CX kk H locs cells slots ls F => lv_imul CX.1 CX.2.1 hd (kk _ _ _ _ _ F))
  | iand =>
    obtain ⟨x, w, r, rfl, rfl, hv⟩ := ps_bin hs
    cases hv
    exact pm_ok_of (fun CX kk H locs cells slots ls F => lv_iand CX.1 CX.2.1 hd (kk _ _ _ _ _ F))
  | ixor =>
    obtain ⟨x, w, r, rfl, rfl, hv⟩ := ps_bin hs
    cases hv
    exact pm_ok_of (fun CX kk H locs cells slots ls F => lv_ixor CX.1 CX.2.1 hd (kk _ _ _ _ _ F))
  | idiv =>
    obtain ⟨x, w, r, rfl, h0, rfl, hv⟩ := ps_dv hs
    cases hv
    exact pm_ok_of (fun CX kk H locs cells slots ls F => lv_idiv CX.1 CX.2.1 hd h0 (kk _ _ _ _ _ F))
  | irem =>
    obtain ⟨x, w, r, rfl, h0, rfl, hv⟩ := ps_dv hs
    cases hv
    exact pm_ok_of (fun CX kk H locs cells slots ls F => lv_irem CX.1 CX.2.1 hd h0 (kk _ _ _ _ _ F))
  | ladd =>
    obtain ⟨x, w, r, rfl, rfl, hv⟩ := ps_binL hs
    cases hv
    exact pm_ok_of (fun CX kk H locs cells slots ls F => lv_ladd CX.1 CX.2.1 hd (kk _ _ _ _ _ F))
  | lsub =>
    obtain ⟨x, w, r, rfl, rfl, hv⟩ := ps_binL hs
    cases hv
    exact pm_ok_of (fun CX kk H locs cells slots ls F => lv_lsub CX.1 CX.2.1 hd (kk _ _ _ _ _ F))
  | lmul =>
    obtain ⟨x, w, r, rfl, rfl, hv⟩ := ps_binL hs
    cases hv
    exact pm_ok_of (fun CX kk H locs cells slots ls F => lv_lmul CX.1 CX.2.1 hd (kk _ _ _ _ _ F))
  | land =>
    obtain ⟨x, w, r, rfl, rfl, hv⟩ := ps_binL hs
    cases hv
    exact pm_ok_of (fun CX kk H locs cells slots ls F => lv_land CX.1 CX.2.1 hd (kk _ _ _ _ _ F))
  | lor =>
    obtain ⟨x, w, r, rfl, rfl, hv⟩ := ps_binL hs
    cases hv
    exact pm_ok_of (fun CX kk H locs cells slots ls F => lv_lor CX.1 CX.2.1 hd (kk _ _ _ _ _ F))
  | lxor =>
    obtain ⟨x, w, r, rfl, rfl, hv⟩ := ps_binL hs
    cases hv
    exact pm_ok_of (fun CX kk H locs cells slots ls F => lv_lxor CX.1 CX.2.1 hd (kk _ _ _ _ _ F))
  | lshl =>
    obtain ⟨x, w, r, rfl, rfl, hv⟩ := ps_shL hs
    cases hv
    exact pm_ok_of (fun CX kk H locs cells slots ls F => lv_lshl CX.1 CX.2.1 hd rfl (kk _ _ _ _ _ F))
  | lshr =>
    obtain ⟨x, w, r, rfl, rfl, hv⟩ := ps_shL hs
    cases hv
    exact pm_ok_of (fun CX kk H locs cells slots ls F => lv_lshr CX.1 CX.2.1 hd rfl (kk _ _ _ _ _ F))
  | lushr =>
    obtain ⟨x, w, r, rfl, rfl, hv⟩ := ps_shL hs
    cases hv
    exact pm_ok_of (fun CX kk H locs cells slots ls F => lv_lushr CX.1 CX.2.1 hd rfl (kk _ _ _ _ _ F))
  | i2l =>
    simp only [pm_stp] at hs
    split at hs
    · cases hs; exact pm_ok_of (fun CX kk H locs cells slots ls F => lv_i2l CX.1 CX.2.1 hd rfl (kk _ _ _ _ _ F))
    · cases hs
  | l2i =>
    simp only [pm_stp] at hs
    split at hs
    · cases hs; exact pm_ok_of (fun CX kk H locs cells slots ls F => lv_l2i CX.1 CX.2.1 hd rfl (kk _ _ _ _ _ F))
    · cases hs
  | lcmp =>
    simp only [pm_stp] at hs
    split at hs
    · cases hs; exact pm_ok_of (fun CX kk H locs cells slots ls F => W.lcmp CX.1 CX.2.1 hd (kk _ _ _ _ _ F))
    · cases hs
  | dup =>
    simp only [pm_stp] at hs
    split at hs
    · split at hs
      · rename_i hc; cases hs; exact pm_ok_of (fun CX kk H locs cells slots ls F => lv_dup CX.1 CX.2.1 hd hc (kk _ _ _ _ _ F))
      · cases hs
    · cases hs
  | dup2 =>
    simp only [pm_stp] at hs
    split at hs
    · split at hs
      · rename_i hc; cases hs; exact pm_ok_of (fun CX kk H locs cells slots ls F => lv_dup2_11 CX.1 CX.2.1 hd hc.1 hc.2 (kk _ _ _ _ _ F))
      · cases hs
    · cases hs
  | pop =>
    simp only [pm_stp] at hs
    split at hs
    · split at hs
      · rename_i hc; cases hs; exact pm_ok_of (fun CX kk H locs cells slots ls F => lv_pop CX.1 CX.2.1 hd hc (kk _ _ _ _ _ F))
      · cases hs
    · cases hs
  | goto off =>
    simp only [pm_stp] at hs
    split at hs
    · rename_i hn
      subst hn
      obtain ⟨t, ht, hv⟩ := ps_jmp hs
      cases hv
      exact pm_ok_of (fun CX kk H locs cells slots ls F => lv_goto CX.1 CX.2.1 hd ht (kk _ _ _ _ _ F))
    · cases hs
  | ifCond cnd off =>
    simp only [pm_stp] at hs
    split at hs
    · obtain ⟨t, ht, ⟨hc, hv⟩ | ⟨hc, hv⟩⟩ := ps_br hs
      · cases hv
        exact pm_ok_of (fun CX kk => ps_if1 CX hd ht (fun _ => kk) (fun q => absurd hc q))
      · cases hv
        exact pm_ok_of (fun CX kk => ps_if1 CX hd ht (fun q => absurd q hc) (fun _ => kk))
    · cases hs
  | if_icmp cnd off =>
    simp only [pm_stp] at hs
    split at hs
    · obtain ⟨t, ht, ⟨hc, hv⟩ | ⟨hc, hv⟩⟩ := ps_br hs
      · cases hv
        exact pm_ok_of (fun CX kk => ps_if2 CX hd ht (fun _ => kk) (fun q => absurd hc q))
      · cases hv
        exact pm_ok_of (fun CX kk => ps_if2 CX hd ht (fun q => absurd q hc) (fun _ => kk))
    · cases hs
  | if_acmp cnd off =>
    cases cnd with
    | eq => cases hs
    | ne =>
      simp only [pm_stp] at hs
      split at hs
      · rename_i w x r
        obtain ⟨t, ht, ⟨hc, hv⟩ | ⟨hc, hv⟩⟩ := ps_br hs
        · cases hv
          have hc' : ¬ x = w := by simpa using hc
          exact pm_ok_of (fun CX kk H locs cells slots ls F => lv_acmp_ne (rx := some x) (ry := some w) CX.1 CX.2.1 hd ht (fun _ => kk _ _ _ _ _ F) (fun q => absurd (Option.some.inj q) hc'))
        · cases hv
          have hc' : x = w := by simpa using hc
          exact pm_ok_of (fun CX kk H locs cells slots ls F => lv_acmp_ne (rx := some x) (ry := some w) CX.1 CX.2.1 hd ht (fun q => absurd (congrArg some hc') q) (fun _ => kk _ _ _ _ _ F))
      · cases hs
  | ifnonnull off =>
    simp only [pm_stp] at hs
    split at hs
    · obtain ⟨t, ht, hv⟩ := ps_jmp hs
      cases hv
      exact pm_ok_of (fun CX kk H locs cells slots ls F => lv_ifnonnull CX.1 CX.2.1 hd ht (kk _ _ _ _ _ F))
    · cases hs
      exact pm_ok_of (fun CX kk H locs cells slots ls F => lv_ifnonnullN CX.1 CX.2.1 hd (kk _ _ _ _ _ F))
    · cases hs
  | tableswitch d lo hi offs =>
    simp only [pm_stp] at hs
    split at hs
    · rename_i x r
      split at hs
      · rename_i hhi
        obtain ⟨t, ht, hv⟩ := ps_jmp hs
        cases hv
        rcases ps_sw (x := x) (d := d) offs.toList lo with ⟨h1, h2⟩ | ⟨h1, h2, h3⟩
        · rw [h2] at ht
          exact pm_ok_of (fun CX kk H locs cells slots ls F => lv_tableOut CX.1 CX.2.1 hd (by rcases h1 with q | q; exact Or.inl q; right; rw [Array.length_toList] at q; omega) ht (kk _ _ _ _ _ F))
        · exact pm_ok_of (fun CX kk H locs cells slots ls F => lv_tableIn CX.1 CX.2.1 hd h1 (by rw [Array.length_toList] at h2; omega) (by rw [← Array.getElem?_toList]; exact h3) ht (kk _ _ _ _ _ F))
      · cases hs
    · cases hs
  | getfield ix =>
    obtain ⟨st1, hv, kk⟩ := ps_getf (p := p) (l := l) (e := e) (R := R) (s := s) (m := m) (args := args) (below := below) (meth := meth) (c := c) (Q := Q) (D := D) (cA := cA) (base := base) (z0 := z0) (s0 := s0) hd hs
    cases hv
    exact pm_ok_of kk
  | putfield ix =>
    obtain ⟨st1, h1, hv, e1, e2, kk⟩ := ps_putf (p := p) (l := l) (e := e) (R := R) (s := s) (m := m) (args := args) (below := below) (meth := meth) (c := c) (Q := Q) (D := D) (cA := cA) (base := base) (z0 := z0) (s0 := s0) hd hs
    cases hv
    exact ⟨⟨Nat.le_of_eq e1.symm, Nat.le_of_eq e2.symm⟩, fun CX _ _ _ => kk CX⟩
  | new ix =>
    obtain ⟨st1, h1, hv, e1, e2, kk⟩ := ps_newo (p := p) (l := l) (e := e) (R := R) (s := s) (m := m) (args := args) (below := below) (meth := meth) (c := c) (Q := Q) (D := D) (cA := cA) (base := base) (z0 := z0) (s0 := s0) hd hs
    cases hv
    exact ⟨⟨e1, e2⟩, fun CX _ => kk CX⟩
  | newarray aty =>
    cases aty with
    | int =>
      obtain ⟨st1, h1, hv, e1, e2, kk⟩ := ps_newi (p := p) (l := l) (e := e) (R := R) (s := s) (m := m) (args := args) (below := below) (meth := meth) (c := c) (Q := Q) (D := D) (cA := cA) (base := base) (z0 := z0) (s0 := s0) hd hs
      cases hv
      exact ⟨⟨e1, e2⟩, fun CX _ => kk CX⟩
    | _ => cases hs
  | anewarray ix =>
    obtain ⟨st1, h1, hv, e1, e2, kk⟩ := ps_newr (p := p) (l := l) (e := e) (R := R) (s := s) (m := m) (args := args) (below := below) (meth := meth) (c := c) (Q := Q) (D := D) (cA := cA) (base := base) (z0 := z0) (s0 := s0) hd hs
    cases hv
    exact ⟨⟨e1, e2⟩, fun CX _ => kk CX⟩
  | arraylength =>
    simp only [pm_stp] at hs
    split at hs
    · split at hs
      · rename_i hc
        cases hs
        exact pm_ok_of (fun CX => ps_alen CX hd hc)
      · cases hs
    · cases hs
  | iaload =>
    simp only [pm_stp] at hs
    split at hs
    · split at hs
      · rename_i hc
        cases hs
        exact pm_ok_of (fun CX => ps_iald CX hd hc.1 hc.2)
      · cases hs
    · cases hs
  | iastore =>
    simp only [pm_stp] at hs
    split at hs
    · split at hs
      · rename_i hc
        cases hs
        exact ⟨⟨Nat.le_refl _, Nat.le_refl _⟩, fun CX _ _ _ => ps_iast CX hd hc.1 hc.2⟩
      · cases hs
    · cases hs
  | aaload =>
    simp only [pm_stp] at hs
    split at hs
    · split at hs
      · rename_i hc
        cases hs
        exact pm_ok_of (fun CX => ps_aald CX hd ⟨hc.1, hc.2.1⟩ hc.2.2)
      · cases hs
    · cases hs
  | aastore =>
    simp only [pm_stp] at hs
    split at hs
    · split at hs
      · rename_i hc
        cases hs
        exact ⟨⟨Nat.le_refl _, Nat.le_refl _⟩, fun CX _ _ _ => ps_aast CX hd ⟨hc.1, hc.2.1⟩ hc.2.2.1 hc.2.2.2⟩
      · cases hs
    · cases hs
  | invokestatic ix =>
    simp only [pm_stp, pm_stat] at hs
    split at hs
    · rename_i hn
      subst hn
      split at hs
      · rename_i hix
        split at hs
        · split at hs
          · rename_i hc
            obtain ⟨c1, c2, c3, c4, c5, c6, c7, c8, c9, c10⟩ := hc
            cases hs
            exact ⟨⟨Nat.le_refl _, Nat.le_refl _⟩, fun CX hz0 _ _ => ps_cpy CX hz0 hd hix c1 c2 c3 c4 c5 c6 c7 c8 c9 c10⟩
          · cases hs
        · cases hs
      · split at hs
        · split at hs
          · unfold pm_callee at hs
            split at hs <;> cases hs
          · cases hs
        · cases hs
    · cases hs
  | invokespecial ix =>
    simp only [pm_stp, pm_spec] at hs
    split at hs
    · rename_i hn
      subst hn
      split at hs
      · rename_i hix
        split at hs
        · split at hs
          · rename_i hc
            obtain ⟨c1, c2, c3⟩ := hc
            cases hs
            refine pm_ok_of (fun CX kk H locs cells slots ls F => ?_)
            obtain ⟨hx, hb, hml, hr, hown, hts, hlocks, hin, hK, hNW, hbase, hfr, hlc⟩ := CX
            have m5 : Cond.instanceMethod objectInit ∈ pm_gd := pm_in_gd (pm_gw pm_misc_ok (List.mem_cons_of_mem _ (List.mem_cons_of_mem _ (List.mem_cons_of_mem _ (List.mem_cons_of_mem _ List.mem_cons_self))))) rfl
            have hlink : Cond.methodLink (pm_cs (pm_oc y)) ix objectInit ∈ pm_gd := pm_in_gd (pm_gw pm_obj_ok (List.mem_map.mpr ⟨_, hix, rfl⟩)) rfl
            have hcat := pm_cat4 _ c1
            exact W.objInit hx hb hown (hts _ hlink) (hts _ m5) (hts _ (pm_in_gd pm_cobj rfl)) rfl (by rw [hml]; exact F.2.2.2.2.2.2.1) rfl hd (by omega) (by show 2 * 0 + _ + 12 ≤ _; omega) (kk _ _ _ _ _ F)
          · cases hs
        · cases hs
      · split at hs
        · split at hs
          · split at hs
            · split at hs
              · unfold pm_callee at hs
                split at hs <;> cases hs
              · cases hs
            · cases hs
          · cases hs
        · cases hs
    · cases hs
  | invokevirtual ix =>
    simp only [pm_stp, pm_virt] at hs
    split at hs
    · split at hs
      · split at hs
        · split at hs
          · unfold pm_callee at hs
            split at hs <;> cases hs
          · cases hs
        · cases hs
      · cases hs
    · cases hs
  | ireturn =>
    simp only [pm_stp] at hs
    split at hs
    · split at hs <;> cases hs
    · cases hs
  | lreturn =>
    simp only [pm_stp] at hs
    split at hs
    · split at hs <;> cases hs
    · cases hs
  | areturn =>
    simp only [pm_stp] at hs
    split at hs
    · split at hs <;> cases hs
    · cases hs
  | return_ =>
    simp only [pm_stp] at hs
    split at hs
    · split at hs <;> cases hs
    · cases hs
  | _ => cases hs
end PMO
