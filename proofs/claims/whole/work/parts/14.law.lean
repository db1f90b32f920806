/-! THE CLAIM OUT OF ONE WALK OF THE LAW'S BODY. Your part is whole_start (and what it stands on); all else here is the same for every law, but numbers. -/
def R_law : String := "PaneDeskLaw"
def lw_P (b : Addr) (xs : List Int32) (args : Array Value) (s : State) : Prop := args = #[.ref b] ∧ s.IntsAt b xs ∧ xs.length ≤ 3072 ∧ (Jvm.Cond.and given_1 narrow_1).before args s = true
def lw_Q (_ : Array Value) (s : State) (o : Outcome) (t : State) : Prop := o = .returned (some (.int 1)) ∧ Framed s o t [] 600000 7302250
def lw_Z (below : List Frame) (a : Array Value) (s : State) : State → Prop := fun t => ∃ o, t.status = .running ∧ Ended t below o ∧ lw_Q a s o t
/-- the law's own end, with 1 on the stack, nothing written that was there before, its room as the claim has it -/
theorem lw_ret {p : Program} {l : Launch} {e : Env} {s : State} {m : MethodId} {below : List Frame} {meth : Method} {c : Code} {b : Nat} (hx : p.tables.exec = Jvm.exec) (hb : c.code = code) (hr : meth.sig.returnType = ret) (hlocks : meth.locks = false) {pc : Nat} {H : Heap} {ls : Array Slot} (hdg : decode code pc = .ok (.ireturn, 1)) : W p l e room_1 s m #[Value.ref b] below meth c H [] 600000 7302250 (lw_Z below #[Value.ref b] s) (F0 m pc ls [.int 1]) := by
  intro T hT X
  obtain ⟨fs, hret, hrun, hended, hW, hframe⟩ := X.leave (v := some (.int 1)) (hlocks := hlocks) (fun h => by rw [hr] at h; cases h)
  have hmeth' : T.vm.method? m = some meth := X.method'
  refine ⟨T.setFrames fs, ?_, .returned (some (.int 1)), hrun, hended, rfl, ⟨_, rfl⟩, hW, hframe⟩
  jvm_step X.here [X.here.top, hx, hb, hdg, hmeth', hr, ret, narrow_b1]
  (try refine ⟨rfl, ?_⟩); (try refine ⟨rfl, ?_⟩)
  first | (intro acts; rw [hret _ acts rfl rfl rfl]) | rw [hret _ _ rfl rfl rfl]
  exact Steps.refl _
/-- what holds at the law's entry: the machine, the code, the tables' words (any of lw_tbl by 'hts w (by decide +kernel)'), the script of L ints xs at the cell b, what the Statement gives of the start (any of its parts by flat_of_before) -/
def lw_At (p : Program) (s : State) (m : MethodId) (meth : Method) (c : Code) (b L : Nat) (xs : Nat → Int32) : Prop :=
  p.tables.exec = Jvm.exec ∧ c.code = code ∧ meth.sig.returnType = ret ∧ c.maxLocals = 4 ∧ s.vm.findClass R_law = some m.cls ∧ (∀ w ∈ lw_tbl, w.before #[Value.ref b] s = true) ∧ va_X b L xs s s.heap ∧ b < s.heap.size ∧ meth.locks = false ∧ (Jvm.Cond.and given_1 narrow_1).before #[Value.ref b] s = true
/-- the law's heap at its entry: the script alone -/
def pm_h0 (b n : Nat) (xs : Nat → Int32) (base : Nat) : pm_H := (fun a => if a = b then (3, n) else (0, 0), fun a => if a = b then xs else fun _ => 0, fun _ _ => 0, fun _ _ => none, base, 0)
/-- what is left to be proved: over the pure machine alone -/
def pm_Pure : Prop := ∀ (b n : Nat) (xs : Nat → Int32) (base : Nat), b < base → n ≤ 3072 → pGo 185 0 [some (.ref b), none, none, none] [] (pm_h0 b n xs base) (fun r => r.1 = some (.int 1) ∧ rz r.2 ≤ base + 600000 ∧ rs r.2 ≤ 7302250)
theorem pm_ao_ok : ([136, 239, 73, 71] : List Nat).map (fun i => lw_tbl[i]?) = ([.arrayOver (.object "PaneDesk$Box"), .arrayOver (.object "PaneDesk$Desk"), .arrayOver (.object "PaneDesk$Layout"), .arrayOver (.object "PaneDesk$Row")] : List Cond).map some := by decide +kernel
theorem pm_ao_in : ∀ j, j < 4 → Cond.arrayOver (.object (pm_cs (pm_el j))) ∈ lw_tbl := by
  intro j hj
  match j, hj with
  | 0, _ => exact pm_gw pm_ao_ok List.mem_cons_self
  | 1, _ => exact pm_gw pm_ao_ok (List.mem_cons_of_mem _ List.mem_cons_self)
  | 2, _ => exact pm_gw pm_ao_ok (List.mem_cons_of_mem _ (List.mem_cons_of_mem _ List.mem_cons_self))
  | 3, _ => exact pm_gw pm_ao_ok (List.mem_cons_of_mem _ (List.mem_cons_of_mem _ (List.mem_cons_of_mem _ List.mem_cons_self)))
theorem pm_nest_in {w : Cond} (hw : w ∈ pm_nest) : w ∈ lw_tbl ∧ w.onTables = true := by
  obtain ⟨e, he, rfl⟩ := List.mem_map.mp hw
  obtain ⟨h1, h2⟩ := List.mem_filter.mp he
  refine ⟨pm_gw pm_lks_ok (List.mem_map.mpr ⟨_, h1, ?_⟩), rfl⟩
  simp only [h2, if_true]
theorem pm_known {s : State} {args : Array Value} (hts : ∀ w ∈ lw_tbl, w.before args s = true) : ∃ (D : va_G) (cA : Nat → ClassId), va_K D pm_cl (pm_tys cA) s := by
  have h1 : ∀ ci : Nat, ∃ x : ClassId × (Nat → Nat), ∀ q, pm_cl[ci]? = some q → u_Kn s q.1 q.2.1 q.2.2 x.1 x.2 := by
    intro ci
    by_cases hci : ci < 10
    · obtain ⟨C, T, N, ty, hc, hC, hN, hws, -⟩ := pm_class hci
      have hinst : Cond.instantiable C N ∈ lw_tbl := pm_gw pm_in_ok (List.mem_map.mpr ⟨_, List.mem_of_getElem? hc, rfl⟩)
      obtain ⟨cC, iS, hk⟩ := u_known (C := C) (T := T) (N := N) (n := N) hts (fun w hw => (List.mem_filter.mp (hws w hw)).1) (hts _ hinst)
      exact ⟨(cC, iS), fun q hq => by cases hc.symm.trans hq; exact hk⟩
    · exact ⟨(default, fun _ => 0), fun q hq => absurd (List.getElem?_eq_some_iff.mp hq).1 hci⟩
  obtain ⟨f, hf⟩ := Classical.axiomOfChoice h1
  have h2 : ∃ c0 : ClassId, ArrOfT s c0 .int ∧ va_RA s c0 .int := by
    have hw := hts _ (pm_gw pm_misc_ok List.mem_cons_self)
    obtain ⟨c, k, comp, e1, e2, e3⟩ := Cond.arrayClass_spec hw
    exact ⟨c, fun n z => ⟨fun k h => (by cases h), k, e2, comp, e3⟩, e1⟩
  have h3 : ∀ j : Nat, ∃ c0 : ClassId, j < 4 → ArrOfT s c0 (.object (pm_cs (pm_el j))) ∧ va_RA s c0 (.object (pm_cs (pm_el j))) := by
    intro j
    by_cases hj : j < 4
    · obtain ⟨comp, c, k, e1, -, e2, e3, e4⟩ := Cond.arrayOver_spec (hts _ (pm_ao_in j hj))
      exact ⟨c, fun _ => ⟨fun n z => ⟨fun k h => (by cases h), k, e2, comp, e3⟩, k, comp, e2, e3, e1, e4⟩⟩
    · exact ⟨default, fun h => absurd h hj⟩
  obtain ⟨c0, hc0⟩ := h2
  obtain ⟨g, hg⟩ := Classical.axiomOfChoice h3
  refine ⟨(fun k => (f k).1, fun k => (f k).2), fun k => if k = 0 then c0 else g (k - 1), fun ci q hq => hf ci q hq, fun k q hq => ?_⟩
  match k, hq with
  | 0, hq => cases hq; exact hc0
  | 1, hq => cases hq; exact hg 0 (by decide)
  | 2, hq => cases hq; exact hg 1 (by decide)
  | 3, hq => cases hq; exact hg 2 (by decide)
  | 4, hq => cases hq; exact hg 3 (by decide)
  | k + 5, hq => simp [pm_tys] at hq
/-- the law's walk, out of the pure machine's -/
theorem pm_start (hpure : pm_Pure) {p : Program} {e : Env} {s : State} {m : MethodId} {below : List Frame} {meth : Method} {c : Code} (l : Launch) {b L : Nat} {xs : Nat → Int32} (hL : L ≤ 3072) (C0 : lw_At p s m meth c b L xs) : W p l e room_1 s m #[Value.ref b] below meth c s.heap [] 0 0 (lw_Z below #[Value.ref b] s) (entryFrame m ([Value.ref b] : List Value).toArray 4) := by
  obtain ⟨hx, hb, hr, hml, hown, hts, hX, hbl, hlocks, hgv⟩ := id C0
  obtain ⟨D, cA, hK⟩ := pm_known hts
  have hNW : pm_NW s := ⟨fun w hw => va_Nw.of (pm_nest_in hw).2 (hts _ (pm_nest_in hw).1), fun j hj => va_AO.of (hts _ (pm_ao_in j hj))⟩
  obtain ⟨n, r, hrun, hr1, hr2, hr3⟩ := hpure b L xs s.heap.size hbl hL
  have CX : pm_CX D cA s.heap.size 185 p room_1 s m #[Value.ref b] meth c :=
    ⟨hx, hb, hml, hr, hown, fun w hw => hts w (List.mem_filter.mp hw).1, hlocks, fun hk => absurd hk (by decide), hK, hNW, Nat.le_refl _, by decide, by decide⟩
  have key := (pm_sound n 185 0 _ [] (pm_h0 b L xs s.heap.size) r hrun p l e room_1 s m #[Value.ref b] below meth c (lw_Z below #[Value.ref b] s) D cA s.heap.size s.heap.size 0).2 CX rfl (by show _ ≤ 600000; omega) (by show _ ≤ 7302250; omega) ?_
  · rw [lg_entry_eq]
    refine key _ _ _ _ _ ⟨⟨?_, rfl, Nat.le_refl _, ?_, ?_⟩, va_S.rf, ?_, ?_, Nat.le_refl _, Nat.zero_le _, ?_⟩
    · intro k q hq
      have := (pm_pw_at hq).1
      have h0 : rz (pm_h0 b L xs s.heap.size) = s.heap.size := rfl
      omega
    · intro a h1 h2
      by_cases ha : a = b
      · exact absurd (show (rK (pm_h0 b L xs s.heap.size) a).1 = 3 by simp [rK, pm_h0, ha]) h2
      · exact absurd (show (rK (pm_h0 b L xs s.heap.size) a).1 = 0 by simp [rK, pm_h0, ha]) h1
    · intro a h1
      by_cases ha : a = b
      · subst ha
        refine ⟨hbl, ?_⟩
        have e1 : (rK (pm_h0 a L xs s.heap.size) a).2 = L := by simp [rK, pm_h0]
        have e2 : rI (pm_h0 a L xs s.heap.size) a = xs := by simp [rI, pm_h0]
        rw [e1, e2]
        exact hX
      · exact absurd h1 (by simp [rK, pm_h0, ha])
    · show 0 = s.heap.size - s.heap.size; omega
    · rfl
    · exact pm_lv_entry (z := 185) (vs := [.ref b]) (Nat.le_of_ble_eq_true rfl)
  · intro pc L' st h i k hd hs
    rcases pm_kind hs with ⟨x, hv⟩ | ⟨r', hv, hri⟩ | ⟨z, as, rest, hv, -⟩
    · cases hv
    · cases hv
      obtain ⟨e1, rfl, hri⟩ := hri
      intro H locs cells slots ls F
      have hlocs : ∀ q ∈ locs, s.heap.size ≤ q.base := F.2.1.2.2
      refine va_forget hlocs ?_
      refine W.widen (k := 600000) (n := 7302250) (by rw [F.2.2.1, ← e1]; omega) (by rw [F.2.2.2.1, ← e1]; omega) ?_
      rcases hri with ⟨rfl, v, rfl, e2, h2⟩ | ⟨rfl, v, rfl, e2, h2⟩ | ⟨rfl, a, q, rfl, e2, h2⟩ | ⟨rfl, rfl, e2, h2⟩
      · rw [hr1] at e2
        cases e2
        exact lw_ret hx hb hr hlocks hd
      · rw [hr1] at e2; cases e2
      · rw [hr1] at e2; cases e2
      · rw [hr1] at e2; cases e2
    · cases hv
