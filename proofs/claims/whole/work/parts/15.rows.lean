/-! WHAT EACH INSTRUCTION ASKS: equations of pGo -/
def ok_n (o : Option Value) : Prop := match o with
  | some v => v.category ≠ 2
  | none => True
theorem ok_n0 : ok_n none = True := rfl
theorem ok_ni (x : Int32) : ok_n (some (.int x)) = True := by simp [ok_n, Value.category]
theorem ok_nr (x : Nat) : ok_n (some (.ref x)) = True := by simp [ok_n, Value.category]
theorem ok_nl : ok_n (some .null) = True := by simp [ok_n, Value.category]
theorem va_rf_some (b : Nat) : va_rf (some b) = .ref b := rfl
theorem va_rf_none : va_rf none = .null := rfl
/-- a place in a row of ints, in a row of references -/
def ok_i (h : pm_H) (a : Nat) (i : Int32) : Prop := ((rK h a).1 = 2 ∨ (rK h a).1 = 3) ∧ ¬ (i < 0 ∨ (rK h a).2 ≤ i.toNatClampNeg)
def ok_w (h : pm_H) (a : Nat) (i : Int32) : Prop := (rK h a).1 = 2 ∧ ¬ (i < 0 ∨ (rK h a).2 ≤ i.toNatClampNeg)
def ok_r (h : pm_H) (a : Nat) (i : Int32) : Prop := 4 ≤ (rK h a).1 ∧ (rK h a).1 < 8 ∧ ¬ (i < 0 ∨ (rK h a).2 ≤ i.toNatClampNeg)
section GX
variable {y pc pc' : Nat} {L L' : pm_L} {st : List Value} {h : pm_H} {Q : Option Value × pm_H → Prop}
theorem gx_nx {i : Instr} {n : Nat} (hd : decode (pm_mb y) pc = .ok (i, n)) {st' : List Value} {h' : pm_H} (hs : pm_stp y i n pc L st h = some (.inl (pc', L', st', h'))) : pGo y pc L st h Q = pGo y pc' L' st' h' Q := by rw [go_at hd, hs]; rfl
theorem gx_if {i : Instr} {n : Nat} (hd : decode (pm_mb y) pc = .ok (i, n)) {c : Prop} [Decidable c] {p1 p2 : Nat} {L1 L2 : pm_L} {st1 st2 : List Value} {h1 h2 : pm_H} (hs : pm_stp y i n pc L st h = if c then some (.inl (p1, L1, st1, h1)) else some (.inl (p2, L2, st2, h2))) : pGo y pc L st h Q = if c then pGo y p1 L1 st1 h1 Q else pGo y p2 L2 st2 h2 Q := by
  rw [go_at hd, hs]
  by_cases hc : c
  · rw [if_pos hc, if_pos hc]; rfl
  · rw [if_neg hc, if_neg hc]; rfl
theorem gx_and {i : Instr} {n : Nat} (hd : decode (pm_mb y) pc = .ok (i, n)) {c : Prop} {st' : List Value} {h' : pm_H} (h1 : c → pm_stp y i n pc L st h = some (.inl (pc', L', st', h'))) (h2 : ¬ c → pm_stp y i n pc L st h = none) : pGo y pc L st h Q = (c ∧ pGo y pc' L' st' h' Q) := by
  rw [go_at hd]
  by_cases hc : c
  · rw [h1 hc]; exact propext ⟨fun q => ⟨hc, q⟩, fun q => q.2⟩
  · rw [h2 hc]; exact propext ⟨fun q => absurd q id, fun q => absurd q.1 hc⟩
/-- a value into a local, of one word -/
theorem gx_put {i : Instr} {n k : Nat} {v : Value} (hd : decode (pm_mb y) pc = .ok (i, n)) {st' : List Value} (hs : pm_stp y i n pc L st h = (pm_put L k v).bind fun L1 => pm_nx pc' L1 st' h) (o : Option Value) (hk : k < L.length) (ho : pm_lg L k = match o with | some v => v.category == 2 | none => false) (hL : L.set k (some v) = L') : pGo y pc L st h Q = (ok_n o ∧ pGo y pc' L' st' h Q) := by
  refine gx_and hd ?_ ?_
  · intro hc
    have hg : pm_lg L k = false := by
      rw [ho]
      cases o with
      | none => rfl
      | some w => simpa [ok_n] using hc
    rw [hs, pm_put, if_pos ⟨hk, hg⟩, hL]
    rfl
  · intro hc
    have hg : ¬ pm_lg L k = false := by
      rw [ho]
      cases o with
      | none => exact absurd trivial hc
      | some w => simpa [ok_n] using hc
    rw [hs, pm_put, if_neg (fun q => hg q.2)]
    rfl
theorem gx_put2 {i : Instr} {n k : Nat} {v : Value} (hd : decode (pm_mb y) pc = .ok (i, n)) {st' : List Value} (hs : pm_stp y i n pc L st h = (pm_put2 L k v).bind fun L1 => pm_nx pc' L1 st' h) (o : Option Value) (hk : k + 1 < L.length) (ho : pm_lg L k = match o with | some v => v.category == 2 | none => false) (hL : (L.set k (some v)).set (k + 1) none = L') : pGo y pc L st h Q = (ok_n o ∧ pGo y pc' L' st' h Q) := by
  refine gx_and hd ?_ ?_
  · intro hc
    have hg : pm_lg L k = false := by
      rw [ho]
      cases o with
      | none => rfl
      | some w => simpa [ok_n] using hc
    rw [hs, pm_put2, if_pos ⟨hk, hg⟩, hL]
    rfl
  · intro hc
    have hg : ¬ pm_lg L k = false := by
      rw [ho]
      cases o with
      | none => exact absurd trivial hc
      | some w => simpa [ok_n] using hc
    rw [hs, pm_put2, if_neg (fun q => hg q.2)]
    rfl
theorem gx_call {i : Instr} {n z : Nat} {as rest : List Value} {L1 : pm_L} (hd : decode (pm_mb y) pc = .ok (i, n)) (hs : pm_stp y i n pc L st h = some (.inr (.inr (z, as, rest)))) (hL : pm_entry z as = L1) (hp : pc + 3 = pc') : pGo y pc L st h Q = pGo z 0 L1 [] h (fun r => pGo y pc' L (r.1.toList ++ rest) r.2 Q) := by rw [go_at hd, hs, ← hL, ← hp]; rfl
theorem gx_virt {i : Instr} {n z : Nat} {as rest : List Value} {L1 : pm_L} (hd : decode (pm_mb y) pc = .ok (i, n)) {c : Prop} (h1 : c → pm_stp y i n pc L st h = some (.inr (.inr (z, as, rest)))) (h2 : ¬ c → pm_stp y i n pc L st h = none) (hL : pm_entry z as = L1) (hp : pc + 3 = pc') : pGo y pc L st h Q = (c ∧ pGo z 0 L1 [] h (fun r => pGo y pc' L (r.1.toList ++ rest) r.2 Q)) := by
  by_cases hc : c
  · rw [gx_call hd (h1 hc) hL hp]; exact propext ⟨fun q => ⟨hc, q⟩, fun q => q.2⟩
  · rw [go_at hd, h2 hc]; exact propext ⟨fun q => absurd q id, fun q => absurd q.1 hc⟩
theorem gx_ret {i : Instr} {n : Nat} {r : Option Value × pm_H} (hd : decode (pm_mb y) pc = .ok (i, n)) (hs : pm_stp y i n pc L st h = some (.inr (.inl r))) : pGo y pc L st h Q = Q r := by rw [go_at hd, hs]; rfl
theorem gx_retc {i : Instr} {n : Nat} {r : Option Value × pm_H} (hd : decode (pm_mb y) pc = .ok (i, n)) {c : Prop} (h1 : c → pm_stp y i n pc L st h = some (.inr (.inl r))) (h2 : ¬ c → pm_stp y i n pc L st h = none) : pGo y pc L st h Q = (c ∧ Q r) := by
  by_cases hc : c
  · rw [gx_ret hd (h1 hc)]; exact propext ⟨fun q => ⟨hc, q⟩, fun q => q.2⟩
  · rw [go_at hd, h2 hc]; exact propext ⟨fun q => absurd q id, fun q => absurd q.1 hc⟩
end GX
