/-! ROWS FOR EACH KIND OF INSTRUCTION -/
theorem nI_z : nI 0 = 0 := nI_0
theorem nI_o : nI 1 = 1 := by decide +kernel
/-- a switch over numbers from k on -/
def gsw (y : Nat) (L : pm_L) (st : List Value) (h : pm_H) (Q : Option Value × pm_H → Prop) (x : Int32) (d : Nat) : Nat → List Nat → Prop
  | _, [] => pGo y d L st h Q
  | k, t :: ts => if x = nI k then pGo y t L st h Q else gsw y L st h Q x d (k + 1) ts
section GY
variable {y pc pc' t : Nat} {L L' : pm_L} {st : List Value} {h : pm_H} {Q : Option Value × pm_H → Prop}
theorem gy_ic {k : Int} {v : Int32} (hd : decode (pm_mb y) pc = .ok (.iconst k, 1)) (hv : Int32.ofInt k = v) (hp : pc + 1 = pc') : pGo y pc L st h Q = pGo y pc' L (.int v :: st) h Q := by subst hv; subst hp; exact gx_nx hd rfl
theorem gy_bi {k : Int} {v : Int32} (hd : decode (pm_mb y) pc = .ok (.bipush k, 2)) (hv : (Int8.ofInt k).toInt32 = v) (hp : pc + 2 = pc') : pGo y pc L st h Q = pGo y pc' L (.int v :: st) h Q := by subst hv; subst hp; exact gx_nx hd rfl
theorem gy_si {k : Int} {v : Int32} (hd : decode (pm_mb y) pc = .ok (.sipush k, 3)) (hv : (Int16.ofInt k).toInt32 = v) (hp : pc + 3 = pc') : pGo y pc L st h Q = pGo y pc' L (.int v :: st) h Q := by subst hv; subst hp; exact gx_nx hd rfl
theorem gy_lc {k : Fin 2} {v : Int64} (hd : decode (pm_mb y) pc = .ok (.lconst k, 1)) (hv : Int64.ofNat (k : Nat) = v) (hp : pc + 1 = pc') : pGo y pc L st h Q = pGo y pc' L (.long v :: st) h Q := by subst hv; subst hp; exact gx_nx hd rfl
theorem gy_ldc {ix : Nat} {v : Int32} (hd : decode (pm_mb y) pc = .ok (.ldc ix, 2)) (hv : pm_ki (pm_oc y) ix = some v) (hp : pc + 2 = pc') : pGo y pc L st h Q = pGo y pc' L (.int v :: st) h Q := by subst hp; exact gx_nx hd (by simp [pm_stp, hv, pm_nx])
theorem gy_ldc2 {ix : Nat} {v : Int64} (hd : decode (pm_mb y) pc = .ok (.ldc2_w ix, 3)) (hv : pm_kj (pm_oc y) ix = some v) (hp : pc + 3 = pc') : pGo y pc L st h Q = pGo y pc' L (.long v :: st) h Q := by subst hp; exact gx_nx hd (by simp [pm_stp, hv, pm_nx])
theorem gy_iinc {k : Nat} {c : Int} {v x : Int32} (hd : decode (pm_mb y) pc = .ok (.iinc k c, 3)) (hv : Int32.ofInt c = v) (hx : L.getD k none = some (.int x)) (o : Option Value) (hk : k < L.length) (ho : pm_lg L k = match o with | some v => v.category == 2 | none => false) (hL : L.set k (some (.int (x + v))) = L') (hp : pc + 3 = pc') : pGo y pc L st h Q = (ok_n o ∧ pGo y pc' L' st h Q) := by
  subst hp
  subst hv
  exact gx_put hd (by simp only [pm_stp, hx, if_true]) o hk ho hL
theorem gy_idiv {a b : Int32} (hd : decode (pm_mb y) pc = .ok (.idiv, 1)) (hp : pc + 1 = pc') : pGo y pc L (.int b :: .int a :: st) h Q = (¬ b = nI 0 ∧ pGo y pc' L (.int (a / b) :: st) h Q) := by
  subst hp; rw [nI_z]
  exact gx_and hd (fun hc => by simp [pm_stp, pm_dv, pm_nx, hc]) (fun hc => by have := Decidable.not_not.mp hc; simp [pm_stp, pm_dv, this])
theorem gy_irem {a b : Int32} (hd : decode (pm_mb y) pc = .ok (.irem, 1)) (hp : pc + 1 = pc') : pGo y pc L (.int b :: .int a :: st) h Q = (¬ b = nI 0 ∧ pGo y pc' L (.int (a - a / b * b) :: st) h Q) := by
  subst hp; rw [nI_z]
  exact gx_and hd (fun hc => by simp [pm_stp, pm_dv, pm_nx, hc]) (fun hc => by have := Decidable.not_not.mp hc; simp [pm_stp, pm_dv, this])
theorem gy_br {off : Int} (ht : (pc : Int) + off = (t : Int)) (b : Bool) : pm_br pc off b L st h = if b = true then some (.inl (t, L, st, h)) else some (.inl (pc + 3, L, st, h)) := by
  have h0 : (0 : Int) ≤ (pc : Int) + off := by rw [ht]; exact Int.natCast_nonneg t
  rw [pm_br, if_pos h0, ht]; rfl
theorem gy_if {i : Instr} {n : Nat} (hd : decode (pm_mb y) pc = .ok (i, n)) {c : Prop} [Decidable c] {b : Bool} {off : Int} {st' : List Value} (hs : pm_stp y i n pc L st h = pm_br pc off b L st' h) (hb : b = decide c) (ht : (pc : Int) + off = (t : Int)) (hp : pc + 3 = pc') : pGo y pc L st h Q = if c then pGo y t L st' h Q else pGo y pc' L st' h Q := by
  subst hp; subst hb
  refine gx_if hd ?_
  rw [hs, gy_br ht]
  by_cases hc : c
  · simp [hc]
  · simp [hc]
theorem gy_if1_eq {x : Int32} {off : Int} (hd : decode (pm_mb y) pc = .ok (.ifCond .eq off, 3)) (ht : (pc : Int) + off = (t : Int)) (hp : pc + 3 = pc') : pGo y pc L (.int x :: st) h Q = if x = nI 0 then pGo y t L st h Q else pGo y pc' L st h Q := gy_if hd rfl (by rw [nI_z]; rfl) ht hp
theorem gy_if1_ne {x : Int32} {off : Int} (hd : decode (pm_mb y) pc = .ok (.ifCond .ne off, 3)) (ht : (pc : Int) + off = (t : Int)) (hp : pc + 3 = pc') : pGo y pc L (.int x :: st) h Q = if ¬ x = nI 0 then pGo y t L st h Q else pGo y pc' L st h Q := gy_if hd rfl (by rw [nI_z]; rfl) ht hp
theorem gy_if1_lt {x : Int32} {off : Int} (hd : decode (pm_mb y) pc = .ok (.ifCond .lt off, 3)) (ht : (pc : Int) + off = (t : Int)) (hp : pc + 3 = pc') : pGo y pc L (.int x :: st) h Q = if x < nI 0 then pGo y t L st h Q else pGo y pc' L st h Q := gy_if hd rfl (by rw [nI_z]; rfl) ht hp
theorem gy_if1_ge {x : Int32} {off : Int} (hd : decode (pm_mb y) pc = .ok (.ifCond .ge off, 3)) (ht : (pc : Int) + off = (t : Int)) (hp : pc + 3 = pc') : pGo y pc L (.int x :: st) h Q = if nI 0 ≤ x then pGo y t L st h Q else pGo y pc' L st h Q := gy_if hd rfl (by rw [nI_z]; rfl) ht hp
theorem gy_if1_gt {x : Int32} {off : Int} (hd : decode (pm_mb y) pc = .ok (.ifCond .gt off, 3)) (ht : (pc : Int) + off = (t : Int)) (hp : pc + 3 = pc') : pGo y pc L (.int x :: st) h Q = if nI 0 < x then pGo y t L st h Q else pGo y pc' L st h Q := gy_if hd rfl (by rw [nI_z]; rfl) ht hp
theorem gy_if1_le {x : Int32} {off : Int} (hd : decode (pm_mb y) pc = .ok (.ifCond .le off, 3)) (ht : (pc : Int) + off = (t : Int)) (hp : pc + 3 = pc') : pGo y pc L (.int x :: st) h Q = if x ≤ nI 0 then pGo y t L st h Q else pGo y pc' L st h Q := gy_if hd rfl (by rw [nI_z]; rfl) ht hp
theorem gy_if2_eq {x w : Int32} {off : Int} (hd : decode (pm_mb y) pc = .ok (.if_icmp .eq off, 3)) (ht : (pc : Int) + off = (t : Int)) (hp : pc + 3 = pc') : pGo y pc L (.int w :: .int x :: st) h Q = if x = w then pGo y t L st h Q else pGo y pc' L st h Q := gy_if hd rfl rfl ht hp
theorem gy_if2_ne {x w : Int32} {off : Int} (hd : decode (pm_mb y) pc = .ok (.if_icmp .ne off, 3)) (ht : (pc : Int) + off = (t : Int)) (hp : pc + 3 = pc') : pGo y pc L (.int w :: .int x :: st) h Q = if ¬ x = w then pGo y t L st h Q else pGo y pc' L st h Q := gy_if hd rfl rfl ht hp
theorem gy_if2_lt {x w : Int32} {off : Int} (hd : decode (pm_mb y) pc = .ok (.if_icmp .lt off, 3)) (ht : (pc : Int) + off = (t : Int)) (hp : pc + 3 = pc') : pGo y pc L (.int w :: .int x :: st) h Q = if x < w then pGo y t L st h Q else pGo y pc' L st h Q := gy_if hd rfl rfl ht hp
theorem gy_if2_ge {x w : Int32} {off : Int} (hd : decode (pm_mb y) pc = .ok (.if_icmp .ge off, 3)) (ht : (pc : Int) + off = (t : Int)) (hp : pc + 3 = pc') : pGo y pc L (.int w :: .int x :: st) h Q = if w ≤ x then pGo y t L st h Q else pGo y pc' L st h Q := gy_if hd rfl rfl ht hp
theorem gy_if2_gt {x w : Int32} {off : Int} (hd : decode (pm_mb y) pc = .ok (.if_icmp .gt off, 3)) (ht : (pc : Int) + off = (t : Int)) (hp : pc + 3 = pc') : pGo y pc L (.int w :: .int x :: st) h Q = if w < x then pGo y t L st h Q else pGo y pc' L st h Q := gy_if hd rfl rfl ht hp
theorem gy_if2_le {x w : Int32} {off : Int} (hd : decode (pm_mb y) pc = .ok (.if_icmp .le off, 3)) (ht : (pc : Int) + off = (t : Int)) (hp : pc + 3 = pc') : pGo y pc L (.int w :: .int x :: st) h Q = if x ≤ w then pGo y t L st h Q else pGo y pc' L st h Q := gy_if hd rfl rfl ht hp
theorem gy_acne {x w : Nat} {off : Int} (hd : decode (pm_mb y) pc = .ok (.if_acmp .ne off, 3)) (ht : (pc : Int) + off = (t : Int)) (hp : pc + 3 = pc') : pGo y pc L (.ref w :: .ref x :: st) h Q = if ¬ x = w then pGo y t L st h Q else pGo y pc' L st h Q := gy_if hd rfl rfl ht hp
theorem gy_jmp {off : Int} (ht : (pc : Int) + off = (t : Int)) : pm_jmp pc off L st h = some (.inl (t, L, st, h)) := by
  have h0 : (0 : Int) ≤ (pc : Int) + off := by rw [ht]; exact Int.natCast_nonneg t
  rw [pm_jmp, if_pos h0, ht]; rfl
theorem gy_goto {off : Int} (hd : decode (pm_mb y) pc = .ok (.goto off, 3)) (ht : (pc : Int) + off = (t : Int)) : pGo y pc L st h Q = pGo y t L st h Q := gx_nx hd (gy_jmp ht)
theorem gy_nonnull {x : Option Nat} {off : Int} (hd : decode (pm_mb y) pc = .ok (.ifnonnull off, 3)) (ht : (pc : Int) + off = (t : Int)) (hp : pc + 3 = pc') : pGo y pc L (va_rf x :: st) h Q = if ¬ x = none then pGo y t L st h Q else pGo y pc' L st h Q := by
  subst hp
  cases x with
  | none => rw [if_neg (by simp)]; exact gx_nx hd rfl
  | some a => rw [if_pos (by simp)]; exact gx_nx hd (gy_jmp ht)
theorem gy_swl {x : Int32} {d : Int} {dt : Nat} (hdt : (pc : Int) + d = (dt : Int)) : ∀ (os : List Int) (ts : List Nat) (k : Nat), os.map (fun o => (pc : Int) + o) = ts.map (fun t : Nat => (t : Int)) → k + os.length < 1000 → pm_G y pc L h Q (pm_jmp pc (pm_sw x d k os) L st h) = gsw y L st h Q x dt k ts := by
  intro os
  induction os with
  | nil =>
    intro ts k ht _
    cases ts with
    | nil => rw [pm_sw, gsw, gy_jmp hdt]; rfl
    | cons t ts => cases ht
  | cons o os ih =>
    intro ts k ht hk
    cases ts with
    | nil => cases ht
    | cons t ts =>
      simp only [List.map_cons, List.cons.injEq] at ht
      rw [pm_sw, gsw]
      have e : (x.toInt = (k : Int)) ↔ x = nI k := by
        rw [← nI_toInt (n := k) (by simp only [List.length_cons] at hk; omega)]
        exact ⟨fun q => Int32.toInt_inj.mp q, fun q => by rw [q]⟩
      by_cases hx : x = nI k
      · rw [if_pos (e.mpr hx), if_pos hx, gy_jmp ht.1]; rfl
      · rw [if_neg (fun q => hx (e.mp q)), if_neg hx]
        have := ih ts (k + 1) ht.2 (by simp only [List.length_cons] at hk; omega)
        rw [show ((k + 1 : Nat) : Int) = (k : Int) + 1 by omega] at this
        exact this
theorem gy_switch {x : Int32} {d : Int} {lo : Nat} {lo' hi : Int} {offs : Array Int} {n dt : Nat} {ts : List Nat} (hd : decode (pm_mb y) pc = .ok (.tableswitch d lo' hi offs, n)) (hlo : lo' = (lo : Int)) (hh : hi = lo + offs.size - 1) (hdt : (pc : Int) + d = (dt : Int)) (ht : offs.toList.map (fun o => (pc : Int) + o) = ts.map (fun t : Nat => (t : Int))) (hk : lo + offs.toList.length < 1000) : pGo y pc L (.int x :: st) h Q = gsw y L st h Q x dt lo ts := by
  rw [go_at hd]
  subst hlo
  show pm_G y pc L h Q (if hi = lo + offs.size - 1 then _ else none) = _
  rw [if_pos hh]
  exact gy_swl hdt _ _ _ ht hk
theorem gy_getf {ix a ci k : Nat} {v : Value} (hd : decode (pm_mb y) pc = .ok (.getfield ix, 3)) (hf : pm_fl (pm_oc y) ix = some (ci, k)) (hv : pm_fv h a (pm_fkk ci k) k = v) (hp : pc + 3 = pc') : pGo y pc L (.ref a :: st) h Q = (rK h a = (1, ci) ∧ pGo y pc' L (v :: st) h Q) := by
  subst hp; subst hv
  exact gx_and hd (fun hc => by simp [pm_stp, pm_getf, hf, hc, pm_nx]) (fun hc => by simp [pm_stp, pm_getf, hf, hc])
theorem gy_putf {ix a ci k : Nat} {v : Value} {h' : pm_H} (hd : decode (pm_mb y) pc = .ok (.putfield ix, 3)) (hf : pm_fl (pm_oc y) ix = some (ci, k)) (hv : pm_stv h a (pm_fkk ci k) k v = some h') (hfin : pm_fff ci k = true → pm_kd y = 2 ∧ pm_oc y = ci) (hp : pc + 3 = pc') : pGo y pc L (v :: .ref a :: st) h Q = (rK h a = (1, ci) ∧ pGo y pc' L st h' Q) := by
  subst hp
  refine gx_and hd (fun hc => ?_) (fun hc => ?_)
  · have h2 : rK h a = (1, ci) ∧ (pm_fff ci k = true → pm_kd y = 2 ∧ pm_oc y = ci) := ⟨hc, hfin⟩
    simp only [pm_stp, pm_putf, hf]
    rw [if_pos h2, hv]; rfl
  · simp only [pm_stp, pm_putf, hf]
    rw [if_neg (fun q => hc q.1)]
theorem gy_new {ix ci n : Nat} (hd : decode (pm_mb y) pc = .ok (.new ix, 3)) (hk : pm_kl (pm_oc y) ix = some ci) (hci : ci < 10) (hn : pm_nf ci = n) (hp : pc + 3 = pc') : pGo y pc L st h Q = pGo y pc' L (.ref (rz h) :: st) (aN h (1, ci) n) Q := by
  subst hp; subst hn
  exact gx_nx hd (by simp [pm_stp, pm_newo, hk, hci, pm_nx])
theorem gy_newi {x : Int32} (hd : decode (pm_mb y) pc = .ok (.newarray .int, 2)) (hp : pc + 2 = pc') : pGo y pc L (.int x :: st) h Q = ((¬ x < 0 ∧ x.toNatClampNeg ≤ 100000) ∧ pGo y pc' L (.ref (rz h) :: st) (aN h (2, x.toNatClampNeg) x.toNatClampNeg) Q) := by
  subst hp
  refine gx_and hd (fun hc => ?_) (fun hc => ?_)
  · simp only [pm_stp, pm_newi]; rw [if_pos hc]; rfl
  · simp only [pm_stp, pm_newi]; rw [if_neg hc]
theorem gy_newr {ix j : Nat} {x : Int32} (hd : decode (pm_mb y) pc = .ok (.anewarray ix, 3)) (hk : (pm_kl (pm_oc y) ix).bind pm_ej = some j) (hp : pc + 3 = pc') : pGo y pc L (.int x :: st) h Q = ((¬ x < 0 ∧ x.toNatClampNeg ≤ 100000) ∧ pGo y pc' L (.ref (rz h) :: st) (aN h (4 + j, x.toNatClampNeg) x.toNatClampNeg) Q) := by
  subst hp
  refine gx_and hd (fun hc => ?_) (fun hc => ?_)
  · simp only [pm_stp, pm_newr, hk]; rw [if_pos hc]; rfl
  · simp only [pm_stp, pm_newr, hk]; rw [if_neg hc]
theorem gy_alen {a : Nat} (hd : decode (pm_mb y) pc = .ok (.arraylength, 1)) (hp : pc + 1 = pc') : pGo y pc L (.ref a :: st) h Q = ((2 ≤ (rK h a).1 ∧ (rK h a).1 < 8) ∧ pGo y pc' L (.int (nI (rK h a).2) :: st) h Q) := by
  subst hp
  refine gx_and hd (fun hc => ?_) (fun hc => ?_)
  · simp only [pm_stp]; rw [if_pos hc]; rfl
  · simp only [pm_stp]; rw [if_neg hc]
theorem gy_iald {a : Nat} {i : Int32} (hd : decode (pm_mb y) pc = .ok (.iaload, 1)) (hp : pc + 1 = pc') : pGo y pc L (.int i :: .ref a :: st) h Q = (ok_i h a i ∧ pGo y pc' L (.int (rI h a i.toNatClampNeg) :: st) h Q) := by
  subst hp
  refine gx_and hd (fun hc => ?_) (fun hc => ?_)
  · unfold ok_i at hc; simp only [pm_stp]; rw [if_pos hc]; rfl
  · unfold ok_i at hc; simp only [pm_stp]; rw [if_neg hc]
theorem gy_iast {a : Nat} {i x : Int32} (hd : decode (pm_mb y) pc = .ok (.iastore, 1)) (hp : pc + 1 = pc') : pGo y pc L (.int x :: .int i :: .ref a :: st) h Q = (ok_w h a i ∧ pGo y pc' L st (uI h a i.toNatClampNeg x) Q) := by
  subst hp
  refine gx_and hd (fun hc => ?_) (fun hc => ?_)
  · unfold ok_w at hc; simp only [pm_stp]; rw [if_pos hc]; rfl
  · unfold ok_w at hc; simp only [pm_stp]; rw [if_neg hc]
theorem gy_aald {a : Nat} {i : Int32} (hd : decode (pm_mb y) pc = .ok (.aaload, 1)) (hp : pc + 1 = pc') : pGo y pc L (.int i :: .ref a :: st) h Q = (ok_r h a i ∧ pGo y pc' L (va_rf (rP h a i.toNatClampNeg) :: st) h Q) := by
  subst hp
  refine gx_and hd (fun hc => ?_) (fun hc => ?_)
  · unfold ok_r at hc; simp only [pm_stp]; rw [if_pos hc]; rfl
  · unfold ok_r at hc; simp only [pm_stp]; rw [if_neg hc]
theorem gy_aast {a b : Nat} {i : Int32} (hd : decode (pm_mb y) pc = .ok (.aastore, 1)) (hp : pc + 1 = pc') : pGo y pc L (.ref b :: .int i :: .ref a :: st) h Q = ((ok_r h a i ∧ rK h b = (1, pm_el ((rK h a).1 - 4))) ∧ pGo y pc' L st (uP h a i.toNatClampNeg (some b)) Q) := by
  subst hp
  refine gx_and hd (fun hc => ?_) (fun hc => ?_)
  · simp only [pm_stp]; rw [if_pos ⟨hc.1.1, hc.1.2.1, hc.2, hc.1.2.2⟩]; rfl
  · simp only [pm_stp]; rw [if_neg (fun q => hc ⟨⟨q.1, q.2.1, q.2.2.2⟩, q.2.2.1⟩)]
theorem gy_cpy {ix a a0 : Nat} {n dp sp : Int32} (hd : decode (pm_mb y) pc = .ok (.invokestatic ix, 3)) (hix : (pm_oc y, ix) ∈ pm_cpy) (hf : 1 ≤ pm_fr y ∧ 26 ≤ pm_lc y) (hp : pc + 3 = pc') : pGo y pc L (.int n :: .int dp :: .ref a :: .int sp :: .ref a0 :: st) h Q = ((rK h a = (2, (rK h a).2) ∧ rK h a0 = (2, (rK h a0).2) ∧ ¬ sp < 0 ∧ ¬ dp < 0 ∧ ¬ n < 0 ∧ sp.toNatClampNeg + n.toNatClampNeg ≤ (rK h a0).2 ∧ dp.toNatClampNeg + n.toNatClampNeg ≤ (rK h a).2 ∧ st.length ≤ 4) ∧ pGo y pc' L st (uA h a (va_cpy (rI h a0) (rI h a) sp.toNatClampNeg dp.toNatClampNeg n.toNatClampNeg)) Q) := by
  subst hp
  refine gx_and hd (fun hc => ?_) (fun hc => ?_)
  · obtain ⟨c1, c2, c3, c4, c5, c6, c7, c8⟩ := hc
    simp only [pm_stp, pm_stat, if_true]
    rw [if_pos hix, if_pos ⟨c1, c2, c3, c4, c5, c6, c7, c8, hf.1, hf.2⟩]; rfl
  · simp only [pm_stp, pm_stat, if_true]
    rw [if_pos hix, if_neg (fun q => hc ⟨q.1, q.2.1, q.2.2.1, q.2.2.2.1, q.2.2.2.2.1, q.2.2.2.2.2.1, q.2.2.2.2.2.2.1, q.2.2.2.2.2.2.2.1⟩)]
theorem gy_obj {ix a : Nat} (hd : decode (pm_mb y) pc = .ok (.invokespecial ix, 3)) (hix : (pm_oc y, ix) ∈ pm_obj) (hf : 1 ≤ pm_fr y ∧ 20 ≤ pm_lc y) (hp : pc + 3 = pc') : pGo y pc L (.ref a :: st) h Q = (st.length ≤ 4 ∧ pGo y pc' L st h Q) := by
  subst hp
  refine gx_and hd (fun hc => ?_) (fun hc => ?_)
  · simp only [pm_stp, pm_spec, if_true]
    rw [if_pos hix, if_pos ⟨hc, hf.1, hf.2⟩]; rfl
  · simp only [pm_stp, pm_spec, if_true]
    rw [if_pos hix, if_neg (fun q => hc q.1)]
theorem gy_callee {z : Nat} {as rest : List Value} (hf : z < 185 ∧ pm_fr z + 1 ≤ pm_fr y ∧ 19 + pm_mx z + pm_lc z ≤ pm_lc y) (hl : (pm_ent as).length ≤ pm_mx z) : pm_callee y z as rest = if rest.length ≤ 4 then some (.inr (.inr (z, as, rest))) else none := by
  rw [pm_callee]
  by_cases h4 : rest.length ≤ 4
  · rw [if_pos ⟨hf.1, hf.2.1, hf.2.2, h4, hl⟩, if_pos h4]
  · rw [if_neg (fun q => h4 q.2.2.2.1), if_neg h4]
/-- calls: As the arguments in their order, behind the receiver -/
theorem gy_virt {ix a z : Nat} {As : List Value} {L1 : pm_L} (n : Nat) (hd : decode (pm_mb y) pc = .ok (.invokevirtual ix, 3)) (hk : pm_lk (pm_oc y) ix = some (z, false)) (hkd : pm_kd z = 1) (hna : pm_na z = n) (hAs : As.length = n) (hf : z < 185 ∧ pm_fr z + 1 ≤ pm_fr y ∧ 19 + pm_mx z + pm_lc z ≤ pm_lc y) (hl : (pm_ent (.ref a :: As)).length ≤ pm_mx z) (hL : pm_entry z (.ref a :: As) = L1) (hp : pc + 3 = pc') : pGo y pc L (As.reverse ++ .ref a :: st) h Q = ((rK h a = (1, pm_oc z) ∧ st.length ≤ 4) ∧ pGo z 0 L1 [] h (fun r => pGo y pc' L (r.1.toList ++ st) r.2 Q)) := by
  have hr : As.reverse.length = n := by rw [List.length_reverse]; exact hAs
  have e1 : (As.reverse ++ Value.ref a :: st).drop n = .ref a :: st := by rw [← hr, List.drop_left]
  have e2 : (As.reverse ++ Value.ref a :: st).take n = As.reverse := by rw [← hr, List.take_left]
  have key : pm_stp y (.invokevirtual ix) 3 pc L (As.reverse ++ .ref a :: st) h = if rK h a = (1, pm_oc z) then (if st.length ≤ 4 then some (.inr (.inr (z, .ref a :: As, st))) else none) else none := by
    simp only [pm_stp, pm_virt, hk, hkd, if_true, hna, e1, e2, List.reverse_reverse, gy_callee (y := y) (rest := st) hf hl]
    by_cases hc : rK h a = (1, pm_oc z)
    · rw [if_pos ⟨hr, hc, trivial⟩, if_pos hc]
    · rw [if_neg (fun q => hc q.2.1), if_neg hc]
  refine gx_virt hd (fun hc => ?_) (fun hc => ?_) hL hp
  · rw [key, if_pos hc.1, if_pos hc.2]
  · rw [key]
    by_cases h1 : rK h a = (1, pm_oc z)
    · rw [if_pos h1, if_neg (fun q => hc ⟨h1, q⟩)]
    · rw [if_neg h1]
theorem gy_stat {ix z : Nat} {b : Bool} {As : List Value} {L1 : pm_L} (n : Nat) (hd : decode (pm_mb y) pc = .ok (.invokestatic ix, 3)) (hix : ¬ (pm_oc y, ix) ∈ pm_cpy) (hk : pm_lk (pm_oc y) ix = some (z, b)) (hkd : pm_kd z = 0) (hna : pm_na z = n) (hAs : As.length = n) (hf : z < 185 ∧ pm_fr z + 1 ≤ pm_fr y ∧ 19 + pm_mx z + pm_lc z ≤ pm_lc y) (hl : (pm_ent As).length ≤ pm_mx z) (hL : pm_entry z As = L1) (hp : pc + 3 = pc') : pGo y pc L (As.reverse ++ st) h Q = (st.length ≤ 4 ∧ pGo z 0 L1 [] h (fun r => pGo y pc' L (r.1.toList ++ st) r.2 Q)) := by
  have hr : As.reverse.length = n := by rw [List.length_reverse]; exact hAs
  have e1 : (As.reverse ++ st).drop n = st := by rw [← hr, List.drop_left]
  have e2 : (As.reverse ++ st).take n = As.reverse := by rw [← hr, List.take_left]
  have key : pm_stp y (.invokestatic ix) 3 pc L (As.reverse ++ st) h = if st.length ≤ 4 then some (.inr (.inr (z, As, st))) else none := by
    simp only [pm_stp, pm_stat, if_true]
    rw [if_neg hix]
    simp only [hk, hkd, hna, e1, e2, List.reverse_reverse, gy_callee (y := y) (rest := st) hf hl]
    rw [if_pos ⟨trivial, hr⟩]
  refine gx_virt hd (fun hc => ?_) (fun hc => ?_) hL hp
  · rw [key, if_pos hc]
  · rw [key, if_neg hc]
theorem gy_spec {ix a z : Nat} {b : Bool} {As : List Value} {L1 : pm_L} (n : Nat) (hd : decode (pm_mb y) pc = .ok (.invokespecial ix, 3)) (hix : ¬ (pm_oc y, ix) ∈ pm_obj) (hk : pm_lk (pm_oc y) ix = some (z, b)) (hkd : pm_kd z = 2) (hna : pm_na z = n) (hAs : As.length = n) (hf : z < 185 ∧ pm_fr z + 1 ≤ pm_fr y ∧ 19 + pm_mx z + pm_lc z ≤ pm_lc y) (hl : (pm_ent (.ref a :: As)).length ≤ pm_mx z) (hL : pm_entry z (.ref a :: As) = L1) (hp : pc + 3 = pc') : pGo y pc L (As.reverse ++ .ref a :: st) h Q = (st.length ≤ 4 ∧ pGo z 0 L1 [] h (fun r => pGo y pc' L (r.1.toList ++ st) r.2 Q)) := by
  have hr : As.reverse.length = n := by rw [List.length_reverse]; exact hAs
  have e1 : (As.reverse ++ Value.ref a :: st).drop n = .ref a :: st := by rw [← hr, List.drop_left]
  have e2 : (As.reverse ++ Value.ref a :: st).take n = As.reverse := by rw [← hr, List.take_left]
  have key : pm_stp y (.invokespecial ix) 3 pc L (As.reverse ++ .ref a :: st) h = if st.length ≤ 4 then some (.inr (.inr (z, .ref a :: As, st))) else none := by
    simp only [pm_stp, pm_spec, if_true]
    rw [if_neg hix]
    simp only [hk, hkd, hna, e1, e2, List.reverse_reverse, gy_callee (y := y) (rest := st) hf hl, if_true]
    rw [if_pos hr]
  refine gx_virt hd (fun hc => ?_) (fun hc => ?_) hL hp
  · rw [key, if_pos hc]
  · rw [key, if_neg hc]
theorem gy_iret {v : Int32} (hd : decode (pm_mb y) pc = .ok (.ireturn, 1)) (hr : pm_rt y = some .int) : pGo y pc L [.int v] h Q = Q (some (.int v), h) := gx_ret hd (by simp [pm_stp, hr])
theorem gy_zret {v : Int32} (hd : decode (pm_mb y) pc = .ok (.ireturn, 1)) (hr : pm_rt y = some .boolean) : pGo y pc L [.int v] h Q = ((v = nI 0 ∨ v = nI 1) ∧ Q (some (.int v), h)) := by
  rw [nI_z, nI_o]
  exact gx_retc hd (fun hc => by simp [pm_stp, hr, hc]) (fun hc => by simp [pm_stp, hr, hc])
theorem gy_lret {v : Int64} (hd : decode (pm_mb y) pc = .ok (.lreturn, 1)) (hr : pm_rt y = some .long) : pGo y pc L [.long v] h Q = Q (some (.long v), h) := gx_ret hd (by simp [pm_stp, hr])
theorem gy_aret {a : Nat} {q : String} (hd : decode (pm_mb y) pc = .ok (.areturn, 1)) (hr : pm_rt y = some (.object q)) : pGo y pc L [.ref a] h Q = Q (some (.ref a), h) := gx_ret hd (by simp [pm_stp, hr])
theorem gy_vret (hd : decode (pm_mb y) pc = .ok (.return_, 1)) (hr : pm_rt y = none) : pGo y pc L [] h Q = Q (none, h) := gx_ret hd (by simp [pm_stp, hr])
end GY
