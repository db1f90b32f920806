/-! WHOLE RUNS ARE SOUND -/
section PMM
variable {p : Program} {l : Launch} {e : Env} {R : Room} {s : State} {m : MethodId} {args : Array Value} {below : List Frame} {meth : Method} {c : Code} {Q : State → Prop}
variable {D : va_G} {cA : Nat → ClassId} {base y z0 s0 : Nat}
/-- a method's walk gives its contract: a method of a class of any name that no row of natives takes -/
theorem pm_ofW {y : MethodName} {ws ws' : List Cond} {rm : Room} {Pc : Array Value → State → Prop} {Qc : Array Value → State → Outcome → State → Prop} {mc ms : Nat} {free : Addr → Prop} {cc : ByteArray} {maxL : Nat} {ret : Option FieldType}
    (hy : plainFor y = true) (hw : ws = Cond.code y cc maxL ret :: ws')
    (body : ∀ p e s m args below meth c s₁, BodyLoose p l y (headSpec ws rm) cc maxL ret e s m args below meth c s₁ → c.maxLocals = maxL → Pc args s →
      W p l e (headSpec ws rm).room s m args below meth c s.heap [] 0 0 (MQ below Qc args s mc ms free) (entryFrame m args maxL)) : Met l y ws rm Pc Qc mc ms free := by
  refine MetFree.of_bodySF (code := cc) (maxLocals := maxL) (ret := ret) hy ?_ ?_
  · intro args s m hp hn
    obtain ⟨meth, c, h1, h2, h3, h4, h5, h6, -, -⟩ := Cond.code_spec hn (atoms_spec (ws := ws) hp _ (by rw [hw]; exact List.mem_cons_self))
    exact ⟨meth, c, h1, h2, h3, h4, h5, h6⟩
  · intro p e s m args below meth c s₁ B hml hP _
    have hh : s₁.heap = s.heap := by rw [B.state]; rfl
    obtain ⟨t, a1, o, b1, b2, b3⟩ := body p e s m args below meth c s₁ B hml hP s₁ hh (Stand.of_body B)
    exact ⟨t, o, a1, b1, b2, b3.1, b3.2⟩
/-- the ends of a method -/
theorem pm_end (CX : pm_CX D cA base y p R s m args meth c) {pc : Nat} {L : pm_L} {st : List Value} {h : pm_H} {i : Instr} {n : Nat} {r : Option Value × pm_H} (hd : decode (pm_mb y) pc = .ok (i, n)) (hs : pm_stp y i n pc L st h = some (.inr (.inl r))) : pm_KK D cA base y z0 s0 p l e R s m args below meth c (MQ below (pm_Qc D cA base r) args s (rz r.2 - z0) (rs r.2 - s0) (fun q => base ≤ q)) pc L st h := by
  obtain ⟨hx, hb, hml, hr, hown, hts, hlocks, hin, hK, hNW, hbase, hfr, hlc⟩ := CX
  rcases pm_kind hs with ⟨x, hv⟩ | ⟨r', hv, hri⟩ | ⟨z, as, rest, hv, -⟩
  · cases hv
  · cases hv
    obtain ⟨e1, rfl, hri⟩ := hri
    intro H locs cells slots ls F
    have hq : ∀ t : State, t.heap = H → s.WarmedH t.vm → pm_Qc D cA base r args s (.returned r.1) t := fun t ht hW =>
      ⟨rfl, by rw [e1, ht]; exact F.1.moved hW.alike, by rw [ht]; exact F.2.1.1, fun q h1 h2 => by rw [ht]; exact F.2.1.2.1 q h1 (Nat.not_le.mpr h2)⟩
    rw [e1, ← F.2.2.1, ← F.2.2.2.1]
    rcases hri with ⟨rfl, v, rfl, e2, h2⟩ | ⟨rfl, v, rfl, e2, h2⟩ | ⟨rfl, a, q, rfl, e2, h2⟩ | ⟨rfl, rfl, e2, h2⟩
    · rw [e2] at hq
      rcases h2 with h2 | ⟨h2, h3⟩
      · exact W.zret (ty := .int) hx hb (by rw [hr]; exact h2) rfl hq F.2.1.2.2 hd hlocks
      · exact W.zret (ty := .boolean) hx hb (by rw [hr]; exact h2) (by rcases h3 with rfl | rfl <;> rfl) hq F.2.1.2.2 hd hlocks
    · rw [e2] at hq
      exact W.lret hx hb (by rw [hr]; exact h2) hq F.2.1.2.2 hd hlocks
    · rw [e2] at hq
      exact W.aret hx hb (by rw [hr]; exact h2) (Or.inl ⟨q, rfl⟩) (Or.inr ⟨a, rfl⟩) hq F.2.1.2.2 hd hlocks
    · rw [e2] at hq
      exact W.vret hx hb (by rw [hr]; exact h2) hq F.2.1.2.2 hd hlocks
  · cases hv
/-- behind a call -/
theorem pm_after {pc : Nat} {L : pm_L} {st rest : List Value} {h : pm_H} {r : Option Value × pm_H} {A : Array Value} (hmono : rz h ≤ rz r.2 ∧ rs h ≤ rs r.2)
    (hrun : ∀ (H : Heap) (locs : List Loc) (cells slots : Nat) (ls : Array Slot), pm_FS D cA base y z0 s0 s L h H locs cells slots ls → va_Run p l e R s m args below meth c H locs cells slots (rz r.2 - rz h) (rs r.2 - rs h) (F0 m pc ls st) rest (pm_Qc D cA base r A) (fun q => base ≤ q))
    (kk : pm_KK D cA base y z0 s0 p l e R s m args below meth c Q (pc + 3) L (r.1.toList ++ rest) r.2) : pm_KK D cA base y z0 s0 p l e R s m args below meth c Q pc L st h := by
  intro H locs cells slots ls F T hT X
  obtain ⟨v, st₀, t, T', L', h0, X', hL, e1, e2, ⟨q1, q2, q3, q4⟩, hst⟩ := hrun H locs cells slots ls F T hT X
  cases q1
  rw [h0] at q3 q4
  obtain ⟨f1, f2, f3, f4, f5, f6, f7⟩ := F
  have hvm : t.vm.Alike s.vm := by rw [← e2]; exact X'.warmed.alike.symm
  obtain ⟨t2, a1, b1⟩ := kk T'.heap (locs ++ L') (cells + (rz r.2 - rz h)) (slots + (rs r.2 - rs h)) ls ⟨by rw [e1]; exact q2.moved hvm, ⟨by rw [e1]; exact Nat.le_trans f2.1 q3, fun q g1 g2 => by rw [e1, q4 q (Nat.lt_of_lt_of_le g1 f2.1) (Nat.not_le.mp g2)]; exact f2.2.1 q g1 g2, fun q hq => by
      rcases List.mem_append.mp hq with g | g
      · exact f2.2.2 q g
      · exact hL q g⟩, by omega, by omega, by omega, by omega, f7⟩ T' rfl X'
  exact ⟨t2, hst t2 a1, b1⟩
end PMM
def pm_Snd (n : Nat) : Prop := ∀ (y pc : Nat) (L : pm_L) (st : List Value) (h : pm_H) (r : Option Value × pm_H), pm_run n y pc L st h = some r →
  ∀ (p : Program) (l : Launch) (e : Env) (R : Room) (s : State) (m : MethodId) (args : Array Value) (below : List Frame) (meth : Method) (c : Code) (Q : State → Prop) (D : va_G) (cA : Nat → ClassId) (base z0 s0 : Nat), (rz h ≤ rz r.2 ∧ rs h ≤ rs r.2) ∧ (pm_CX D cA base y p R s m args meth c → z0 = s.heap.size → rz r.2 - z0 ≤ R.cells → rs r.2 - s0 ≤ R.slots →
    (∀ (pc : Nat) (L : pm_L) (st : List Value) (h : pm_H) (i : Instr) (n : Nat), decode (pm_mb y) pc = .ok (i, n) → pm_stp y i n pc L st h = some (.inr (.inl r)) → pm_KK D cA base y z0 s0 p l e R s m args below meth c Q pc L st h) → pm_KK D cA base y z0 s0 p l e R s m args below meth c Q pc L st h)
theorem pm_room4 {c z0 zh zq zr R : Nat} (h1 : c = zh - z0) (h2 : z0 ≤ zh) (h3 : zh ≤ zq) (h4 : zq ≤ zr) (h5 : zr - z0 ≤ R) : c + (zq - zh) ≤ R := by omega
/-- a run of a method gives its contract -/
theorem pm_met {n : Nat} (hn : pm_Snd n) (l : Launch) (D : va_G) (cA : Nat → ClassId) (base : Nat) {z : Nat} {as : List Value} {h : pm_H} {r : Option Value × pm_H} (hz : z < 185) (hl : (pm_ent as).length ≤ pm_mx z) (hrun : pm_run n z 0 (pm_entry z as) [] h = some r) :
    Met l (pm_nm z) (Cond.code (pm_nm z) (pm_mb z) (pm_mx z) (pm_rt z) :: pm_gd) { frames := pm_fr z, cells := rz r.2 - rz h, slots := rs r.2 - rs h, locals := pm_lc z } (pm_Pc D cA base h as) (pm_Qc D cA base r) (rz r.2 - rz h) (rs r.2 - rs h) (fun q => base ≤ q) := by
  obtain ⟨k1, k2, k3, k4, k5, k6⟩ := pm_nm_ok z hz
  refine pm_ofW k2 rfl ?_
  intro p e s m args below meth c s₁ B hml hv
  obtain ⟨rfl, hW, hK, hNW⟩ := hv
  have hts := atoms_spec (ws := Cond.code (pm_nm z) (pm_mb z) (pm_mx z) (pm_rt z) :: pm_gd) B.pre
  have hown : s.vm.findClass (pm_nm z).cls = some m.cls := findClass_of_methodNamed B.named
  rw [k1] at hown
  have hsz : s.heap.size = rz h := hW.2.1
  have CX : pm_CX D cA base z p { frames := pm_fr z, cells := rz r.2 - rz h, slots := rs r.2 - rs h, locals := pm_lc z } s m as.toArray meth c :=
    ⟨B.exec, B.bytes, hml, B.returns, hown, fun w hw => hts w (List.mem_cons_of_mem _ hw), B.notSynchronized, fun hk => by rw [(name_of_methodNamed B.named B.method).1]; exact (k6 hk).1, hK, hNW, by rw [hsz]; exact hW.2.2.1, Nat.le_refl _, Nat.le_refl _⟩
  have key := (hn z 0 (pm_entry z as) [] h r hrun p l e _ s m as.toArray below meth c (MQ below (pm_Qc D cA base r) as.toArray s (rz r.2 - rz h) (rs r.2 - rs h) (fun q => base ≤ q)) D cA base (rz h) (rs h)).2 CX hsz.symm (Nat.le_refl _) (Nat.le_refl _) (fun pc L st h' i k hd hs => pm_end CX hd hs)
  rw [lg_entry_eq]
  refine key _ _ _ _ _ ⟨hW, va_S.rf, by omega, by omega, Nat.le_refl _, Nat.le_refl _, pm_lv_entry hl⟩
theorem pm_lk_ok {c ix z : Nat} {b : Bool} (hk : pm_lk c ix = some (z, b)) : (if b then Cond.methodLinkNest (pm_cs c) ix (pm_nm z) "PaneDesk" else Cond.methodLink (pm_cs c) ix (pm_nm z)) ∈ lw_tbl ∧ (b = true → Cond.methodLinkNest (pm_cs c) ix (pm_nm z) "PaneDesk" ∈ pm_nest) := by
  have hm : (c, ix, z, b) ∈ pm_lks := pm_find hk
  refine ⟨pm_gw pm_lks_ok (List.mem_map.mpr ⟨_, hm, rfl⟩), fun hb => ?_⟩
  subst hb
  exact List.mem_map.mpr ⟨_, List.mem_filter.mpr ⟨hm, rfl⟩, rfl⟩
theorem pm_need_in {z : Nat} (hz : z < 185) {w : Cond} (hw : w ∈ pm_need z) (hg : goodWord w = true) : w ∈ pm_gd := pm_in_gd (pm_gw (pm_mp_ok z hz) hw) hg
/-- every run is sound -/
theorem pm_sound : ∀ n, pm_Snd n := by
  intro n
  induction n with
  | zero => intro y pc L st h r hr; cases hr
  | succ n ih =>
    intro y pc L st h r hr
    rw [pm_run] at hr
    cases hd : decode (pm_mb y) pc with
    | error x => rw [hd] at hr; cases hr
    | ok x =>
      obtain ⟨i, k⟩ := x
      rw [hd] at hr
      dsimp only at hr
      cases hs : pm_stp y i k pc L st h with
      | none => rw [hs] at hr; cases hr
      | some v =>
        rw [hs] at hr
        rcases v with ⟨pc', L', st', h'⟩ | r' | ⟨z, as, rest⟩
        · dsimp only at hr
          intro p l e R s m args below meth c Q D cA base z0 s0
          obtain ⟨i1, i2⟩ := ih y pc' L' st' h' r hr p l e R s m args below meth c Q D cA base z0 s0
          obtain ⟨hm, hk⟩ := pm_step (p := p) (l := l) (e := e) (R := R) (s := s) (m := m) (args := args) (below := below) (meth := meth) (c := c) (Q := Q) (D := D) (cA := cA) (base := base) (z0 := z0) (s0 := s0) hd hs
          refine ⟨⟨Nat.le_trans hm.1 i1.1, Nat.le_trans hm.2 i1.2⟩, fun CX hz0 hc1 hc2 hfin => ?_⟩
          exact hk CX hz0 (by omega) (by omega) (i2 CX hz0 hc1 hc2 hfin)
        · dsimp only at hr
          cases hr
          rcases pm_kind hs with ⟨x, hv⟩ | ⟨r', hv, hri⟩ | ⟨z, as, rest, hv, -⟩
          · cases hv
          · cases hv
            intro p l e R s m args below meth c Q D cA base z0 s0
            refine ⟨by rw [hri.1]; exact ⟨Nat.le_refl _, Nat.le_refl _⟩, fun CX hz0 hc1 hc2 hfin => ?_⟩
            exact hfin pc L st h i k hd hs
          · cases hv
        · dsimp only at hr
          cases hc : pm_run n z 0 (pm_entry z as) [] h with
          | none => rw [hc] at hr; cases hr
          | some q =>
            rw [hc] at hr
            dsimp only at hr
            intro p l e R s m args below meth c Q D cA base z0 s0
            obtain ⟨i1, i2⟩ := ih y (pc + 3) L (q.1.toList ++ rest) q.2 r hr p l e R s m args below meth c Q D cA base z0 s0
            obtain ⟨j1, -⟩ := ih z 0 (pm_entry z as) [] h q hc p l e R s m args below meth c Q D cA base z0 s0
            refine ⟨⟨Nat.le_trans j1.1 i1.1, Nat.le_trans j1.2 i1.2⟩, fun CX hz0 hc1 hc2 hfin => ?_⟩
            rcases pm_kind hs with ⟨x, hv⟩ | ⟨r', hv, hri⟩ | ⟨z', as', rest', hv, hci⟩
            · cases hv
            · cases hv
            · cases hv
              obtain ⟨rfl, ⟨hz, hfr1, hlc1, hrl, hel⟩, ix, b, hlk, hcase⟩ := hci
              have hM := pm_met ih l D cA base hz hel hc
              obtain ⟨k1, k2, k3, k4, k5, k6⟩ := pm_nm_ok z hz
              obtain ⟨hx, hb, hml, hrt, hown, hts, hlocks, hin, hK, hNW, hbase, hfr, hlc⟩ := id CX
              obtain ⟨hl1, hl2⟩ := pm_lk_ok hlk
              have hcode : Cond.code (pm_nm z) (pm_mb z) (pm_mx z) (pm_rt z) ∈ pm_gd := pm_in_gd (pm_code_ok z hz) rfl
              have hini : Cond.initialized (pm_nm z).cls ∈ pm_gd := pm_need_in hz List.mem_cons_self rfl
              have hwords : ∀ w ∈ (Cond.code (pm_nm z) (pm_mb z) (pm_mx z) (pm_rt z) :: pm_gd), ∀ (a' : Array Value) (U : State), s.WarmedH U.vm → w.before a' U = true := by
                intro w hw a' U hW
                have hw2 : w ∈ pm_gd := by
                  rcases List.mem_cons.mp hw with rfl | hw
                  · exact hcode
                  · exact hw
                exact word_at hW (pm_gd_good hw2) (hts w hw2)
              have hnp : ∀ sig, parseMethodDescriptor (pm_nm z).desc = some sig → pm_na z = sig.parameters.length := by
                intro sig hsig
                rw [hsig] at k5
                exact (Option.some.inj k5).symm
              have hcat := pm_cat4 rest hrl
              have hPre : ∀ (H : Heap) (locs : List Loc) (cells slots : Nat) (ls : Array Slot), pm_FS D cA base y z0 s0 s L h H locs cells slots ls → PreS s H (pm_Pc D cA base h as) as := by
                intro H locs cells slots ls F
                exact ⟨pm_blind, fun U hU hW => ⟨rfl, by rw [hU]; exact F.1.moved hW.alike, va_K.moved hW.alike hK, hNW.warm hW⟩⟩
              refine pm_after (A := as.toArray) (r := q) j1 ?_ (i2 CX hz0 hc1 hc2 hfin)
              intro H locs cells slots ls F
              have hroom : cells + (rz q.2 - rz h) ≤ R.cells ∧ slots + (rs q.2 - rs h) ≤ R.slots := ⟨pm_room4 F.2.2.1 F.2.2.2.2.1 j1.1 i1.1 hc1, pm_room4 F.2.2.2.1 F.2.2.2.2.2.1 j1.2 i1.2 hc2⟩
              have hfix : CallFix p m c (pm_mb y) (pm_mx y) s args pm_gd (pm_cs (pm_oc y)) := ⟨hx, hb, hml, hown, hts⟩
              rcases hcase with ⟨rfl, rfl, hkd, a, As, rfl, hAs, rfl, hka⟩ | ⟨rfl, hkd, hAs, rfl⟩ | ⟨rfl, hkd, a, As, rfl, hAs, rfl⟩
              · have hn1 : Cond.instanceMethod (pm_nm z) ∈ pm_need z := by simp [pm_need, hkd]
                have hn2 : Cond.selects (pm_nm z).cls (pm_nm z) (pm_nm z) ∈ pm_need z := by simp [pm_need, hkd]
                have ho := pm_own (k := 1) F.1 (congrArg Prod.fst hka) (by decide) (by decide)
                have hg := pm_pw_get (cA := cA) ho.1 ho.2
                rw [pm_ce_o hka] at hg
                obtain ⟨r', g0, -⟩ := F.1.1 _ _ hg
                have hrc := va_recv hK F.1.1 g0 hg
                have hocl : pm_oc z < 10 := (List.getElem?_eq_some_iff.mp g0).1
                obtain ⟨C, T, N, ty, hc', hC, -⟩ := pm_class hocl
                have hrq : r'.1 = (pm_nm z).cls := by rw [k1, ← hC]; exact congrArg Prod.fst (Option.some.inj (g0.symm.trans hc'))
                rw [hrq] at hrc
                exact va_runV (C := (pm_nm z).cls) (bytes := pm_mb z) (maxL := pm_mx z) (ret := pm_rt z) (n := pm_na z) (index := ix) hfix hM ⟨⟨rfl, rfl, by show pm_fr z + 1 ≤ R.frames; omega, by show 8 + (pm_mx z + 11) + pm_lc z ≤ R.locals; omega, hwords, List.mem_cons_self, hts _ hcode, hts _ hini, ⟨k3, k4⟩, hnp, hts _ (pm_in_gd hl1 rfl)⟩, hts _ (pm_need_in hz hn1 rfl), hts _ (pm_need_in hz hn2 rfl)⟩ ⟨pm_blind, hrc, (hPre H locs cells slots ls F).2⟩ rfl hAs F.2.2.2.2.2.2.1 rfl (lv_room hcat) hd hroom
              · have hn1 : Cond.static (pm_nm z) ∈ pm_need z := by simp [pm_need, hkd]
                cases b with
                | false =>
                  exact va_runS (bytes := pm_mb z) (maxL := pm_mx z) (ret := pm_rt z) (n := pm_na z) (index := ix) hfix hM ⟨⟨rfl, rfl, by show pm_fr z + 1 ≤ R.frames; omega, by show 8 + (pm_mx z + 11) + pm_lc z ≤ R.locals; omega, hwords, List.mem_cons_self, hts _ hcode, hts _ hini, ⟨k3, k4⟩, hnp, hts _ (pm_in_gd hl1 rfl)⟩, hts _ (pm_need_in hz hn1 rfl)⟩ (hPre H locs cells slots ls F) rfl hAs F.2.2.2.2.2.2.1 rfl (lv_room hcat) hd hroom
                | true =>
                  exact va_runSN (host := "PaneDesk") (bytes := pm_mb z) (maxL := pm_mx z) (ret := pm_rt z) (n := pm_na z) (index := ix) hfix hM ⟨⟨⟨rfl, rfl, by show pm_fr z + 1 ≤ R.frames; omega, by show 8 + (pm_mx z + 11) + pm_lc z ≤ R.locals; omega, hwords, List.mem_cons_self⟩, hts _ hcode, hts _ hini, ⟨k3, k4⟩, hnp, va_Nw.use rfl (hNW.1 _ (hl2 rfl))⟩, hts _ (pm_need_in hz hn1 rfl), trivial⟩ (hPre H locs cells slots ls F) rfl hAs F.2.2.2.2.2.2.1 rfl (lv_room hcat) hd hroom
              · have hn1 : Cond.instanceMethod (pm_nm z) ∈ pm_need z := by simp [pm_need, hkd]
                obtain ⟨hnm, hrt0⟩ := k6 hkd
                rw [hrt0] at hM hcode hwords
                cases b with
                | false =>
                  exact va_runI (bytes := pm_mb z) (maxL := pm_mx z) (n := pm_na z) (index := ix) hfix hM ⟨⟨rfl, rfl, by show pm_fr z + 1 ≤ R.frames; omega, by show 8 + (pm_mx z + 11) + pm_lc z ≤ R.locals; omega, hwords, List.mem_cons_self, hts _ hcode, hts _ hini, ⟨k3, k4⟩, hnp, hts _ (pm_in_gd hl1 rfl)⟩, hnm, hts _ (pm_need_in hz hn1 rfl)⟩ (hPre H locs cells slots ls F) rfl hAs F.2.2.2.2.2.2.1 rfl (lv_room hcat) hd hroom
                | true =>
                  exact va_runIN (host := "PaneDesk") (bytes := pm_mb z) (maxL := pm_mx z) (n := pm_na z) (index := ix) hfix hM ⟨⟨⟨rfl, rfl, by show pm_fr z + 1 ≤ R.frames; omega, by show 8 + (pm_mx z + 11) + pm_lc z ≤ R.locals; omega, hwords, List.mem_cons_self⟩, hts _ hcode, hts _ hini, ⟨k3, k4⟩, hnp, va_Nw.use rfl (hNW.1 _ (hl2 rfl))⟩, hnm, hts _ (pm_need_in hz hn1 rfl)⟩ (hPre H locs cells slots ls F) rfl hAs F.2.2.2.2.2.2.1 rfl (lv_room hcat) hd hroom
